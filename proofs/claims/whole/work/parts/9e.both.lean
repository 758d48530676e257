/-! The relation of the two objects, and the calls that only read. -/
def slR (m : mz_M) (x : Nat) : Prop := (m 139 x = m 157 x ∧ (m 139 x = 0 ∨ m 139 x = 1)) ∧ cnO m (59 + 40 * x) ∧ (m 139 x ≠ 0 → ∃ N, RW m (59 + 40 * x) (fun j => m 156 (2430 * x + j)) N)
def rdR (m : mz_M) : Prop := ∃ L : Nat, m 1 2 = L ∧ L ≤ 600 ∧ m 153 6 = L ∧ (∀ j, j < L → (0 ≤ m 17 j ∧ m 17 j ≤ 255) ∧ m 158 j = mz_i2b (m 17 j)) ∧ m 1 6 = m 153 11 ∧ 0 ≤ m 153 8
/-- no place has more cars than spaces -/
def spR (m : mz_M) (u : Nat) : Prop := ∀ p : Nat, p < 10 → sm (fun c => if cos m u p c then 1 else 0) 16 ≤ m (u + 3) p
theorem spR_congr {m m' : mz_M} {u : Nat} (e : ∀ a, u < a → a < u + 40 → a ≠ u + 22 → a ≠ u + 23 → m' a = m a) (h : spR m u) : spR m' u := by
  intro p hp
  rw [e (u + 3) (by omega) (by omega) (by omega) (by omega)]
  have : sm (fun c => if cos m' u p c then 1 else 0) 16 = sm (fun c => if cos m u p c then 1 else 0) 16 := sm_congr fun i hi => by
    unfold cos
    rw [e (u + 24 + i) (by omega) (by omega) (by omega) (by omega)]
  rw [this]
  exact h p hp
def scR (m : mz_M) : Prop := (lnO (m 145) ∧ woB (m 146) ∧ shO (m 152) ∧ shM (m 165)) ∧ spR m 18 ∧ ∀ x, x < 2 → m 139 x ≠ 0 → spR m (59 + 40 * x)
theorem scR_frame {m m' : mz_M} (h : scR m) (e : ∀ a, a = 145 ∨ a = 146 ∨ a = 152 ∨ a = 165 ∨ (18 < a ∧ a < 40) ∨ (42 ≤ a ∧ a < 140) → m' a = m a) : scR m' := by
  obtain ⟨⟨h1, h2, h3, h4⟩, h5, h6⟩ := h
  refine ⟨⟨?_, ?_, ?_, ?_⟩, spR_congr (fun a q1 q2 q3 q4 => e a (by omega)) h5, fun x hx hu => spR_congr (fun a q1 q2 q3 q4 => e a (by omega)) (h6 x hx ?_)⟩
  · rw [e 145 (by omega)]; exact h1
  · rw [e 146 (by omega)]; exact h2
  · rw [e 152 (by omega)]; exact h3
  · rw [e 165 (by omega)]; exact h4
  · rw [← e 139 (by omega)]; exact hu
def Rel (m : mz_M) : Prop := (∃ N, RW m 18 (m 154) N) ∧ (slR m 0 ∧ slR m 1) ∧ rdR m ∧ scR m
/-- the places that a read leaves as they are -/
def frz (a : Nat) : Prop := a = 17 ∨ (18 ≤ a ∧ a < 40) ∨ (42 ≤ a ∧ a < 140) ∨ a = 154 ∨ (156 ≤ a ∧ a < 159)
theorem slR_frame {m m' : mz_M} {x : Nat} (hx : x < 2) (h : slR m x) (e : ∀ a, (59 ≤ a ∧ a < 140) ∨ a = 156 ∨ a = 157 → m' a = m a) : slR m' x := by
  unfold slR at h ⊢
  rw [e 139 (by omega), e 157 (by omega), e 156 (by omega)]
  refine ⟨h.1, fun c hc => ?_, fun q => ?_⟩
  · rw [e _ (by omega)]; exact h.2.1 c hc
  · obtain ⟨N, hN⟩ := h.2.2 q
    exact ⟨N, RW_congr (fun a h1 h2 h3 h4 => e a (by omega)) (fun _ _ => rfl) hN⟩
theorem rdR_frame {m m' : mz_M} (h : rdR m) (e : m' 17 = m 17 ∧ m' 158 = m 158) (e1 : m' 1 2 = m 1 2 ∧ m' 1 6 = m 1 6) (e3 : m' 153 6 = m 153 6 ∧ m' 153 8 = m 153 8 ∧ m' 153 11 = m 153 11) : rdR m' := by
  obtain ⟨L, h⟩ := h
  refine ⟨L, ?_⟩
  rw [e.1, e.2, e1.1, e1.2, e3.1, e3.2.1, e3.2.2]
  exact h
theorem Rel_frame {m m' : mz_M} (h : Rel m) (e : ∀ a, frz a → m' a = m a) (e1 : m' 1 2 = m 1 2 ∧ m' 1 6 = m 1 6) (e3 : m' 153 6 = m 153 6 ∧ m' 153 8 = m 153 8 ∧ m' 153 11 = m 153 11) (sc : scR m') : Rel m' := by
  obtain ⟨⟨N, hN⟩, ⟨s0, s1⟩, hr, _⟩ := h
  have f : ∀ a, (59 ≤ a ∧ a < 140) ∨ a = 156 ∨ a = 157 → m' a = m a := fun a ha => e a (by unfold frz; omega)
  refine ⟨⟨N, ?_⟩, ⟨slR_frame (by omega) s0 f, slR_frame (by omega) s1 f⟩, rdR_frame hr ⟨e 17 (by unfold frz; omega), e 158 (by unfold frz; omega)⟩ e1 e3, sc⟩
  rw [e 154 (by unfold frz; omega)]
  exact RW_congr (fun a h1 h2 h3 h4 => e a (by unfold frz; omega)) (fun _ _ => rfl) hN
theorem scR_up {m : mz_M} {a j : Nat} {v : Int} (h : scR m) (ha : a ≠ 145 ∧ a ≠ 146 ∧ a ≠ 152 ∧ a ≠ 165 ∧ (a < 18 ∨ 139 < a)) : scR (mz_up m a j v) :=
  scR_frame h fun b hb => by funext i; exact up_o (by omega)
theorem Rel_153 {m : mz_M} {j : Nat} {v : Int} (h : Rel m) (hj : j ≠ 6 ∧ j ≠ 8 ∧ j ≠ 11) : Rel (mz_up m 153 j v) :=
  Rel_frame h (fun a ha => by funext i; exact up_o (by unfold frz at ha; omega)) ⟨up_o (by omega), up_o (by omega)⟩ ⟨up_k (by omega), up_k (by omega), up_k (by omega)⟩ (scR_up h.2.2.2 (by omega))
theorem Rel_thr {m : mz_M} {v : Int} (h : Rel m) : Rel (mz_up m 153 4 v) := Rel_153 h (by omega)
/-- both objects answer alike, and stay alike -/
def both (fc fm : Nat) (as : List mz_V) (m : mz_M) : Prop := ∃ (v : Int) (m1 m2 : mz_M), sp fc (mz_r 8 0 0 :: as) m (some (mz_i v)) m1 ∧ sp fm (mz_r 9 0 153 :: as) m1 (some (mz_i v)) m2 ∧ Rel m2
theorem b_read {fc fm : Nat} {as : List mz_V} {m : mz_M} {v w : Int} (h : Rel m) (h1 : sp fc (mz_r 8 0 0 :: as) m (some (mz_i v)) m) (h2 : sp fm (mz_r 9 0 153 :: as) m (some (mz_i w)) (mz_up m 153 4 0)) (e : w = v) : both fc fm as m := by
  subst e
  exact ⟨_, _, _, h1, h2, Rel_thr h⟩
theorem b_loadError {m : mz_M} (h : Rel m) : both 27 42 [] m := by
  obtain ⟨L, hL⟩ := h.2.2.1
  exact b_read h (sp_X8_loadError m) (sp_X9_loadError m) hL.2.2.2.2.1.symm
theorem b_logCount {m : mz_M} (h : Rel m) : both 28 43 [] m := by
  obtain ⟨N, hw⟩ := h.1
  refine b_read h (sp_X8_logCount m) (sp_X9_logCount m) ?_
  have a := hw.2.2.2.2.1
  show m 154 429 = m (18 + 17) 0
  rw [a.1, a.2.1]
theorem b_now {m : mz_M} (h : Rel m) : both 29 45 [] m := by
  obtain ⟨N, hw⟩ := h.1
  exact b_read h (sp_X8_now m) (sp_X9_now m) hw.2.1.1.1
theorem b_placeCount {m : mz_M} (h : Rel m) : both 30 47 [] m := by
  obtain ⟨N, hw⟩ := h.1
  exact b_read h (sp_X8_placeCount m) (sp_X9_placeCount m) (RW_sz hw).1
theorem b_truck {m : mz_M} (h : Rel m) : both 32 50 [] m := by
  obtain ⟨N, hw⟩ := h.1
  exact b_read h (sp_X8_truck m) (sp_X9_truck m) hw.2.1.2.1
theorem b_credit {m : mz_M} (h : Rel m) (x : Int) : both 86 214 [mz_i x] m := by
  obtain ⟨N, hw⟩ := h.1
  refine b_read h (sp_X8_credit m x) (sp_X9_credit m x) ?_
  by_cases hx : 0 ≤ x ∧ x < 16
  · rw [if_pos hx, if_pos hx]
    have a := hw.2.2.2.1 x.toNat (by omega)
    have b := a.1
    have d := a.2.1
    generalize 18 + 24 + x.toNat = k at a b d ⊢
    rw [b.2.1]
    rw [if_pos (by omega)]; exact b.2.2.2.2.1
  · rw [if_neg hx, if_neg hx]
theorem b_fees {m : mz_M} (h : Rel m) (x : Int) : both 87 215 [mz_i x] m := by
  obtain ⟨N, hw⟩ := h.1
  refine b_read h (sp_X8_fees m x) (sp_X9_fees m x) ?_
  by_cases hx : 0 ≤ x ∧ x < 16
  · rw [if_pos hx, if_pos hx]
    have a := hw.2.2.2.1 x.toNat (by omega)
    have b := a.1
    have d := a.2.1
    generalize 18 + 24 + x.toNat = k at a b d ⊢
    rw [b.2.1]
    rw [if_pos (by omega)]; exact b.2.2.2.2.2.1
  · rw [if_neg hx, if_neg hx]
theorem b_clampedSince {m : mz_M} (h : Rel m) (x : Int) : both 84 213 [mz_i x] m := by
  obtain ⟨N, hw⟩ := h.1
  refine b_read h (sp_X8_clampedSince m x) (sp_X9_clampedSince m x) ?_
  by_cases hx : 0 ≤ x ∧ x < 16
  · rw [if_pos hx, if_pos hx]
    have a := hw.2.2.2.1 x.toNat (by omega)
    have b := a.1
    have d := a.2.1
    generalize 18 + 24 + x.toNat = k at a b d ⊢
    rw [b.2.1]
    by_cases q : m k 1 = 2
    · rw [if_pos (by omega), if_pos q]; exact b.2.2.2.2.2.2
    · rw [if_neg (by omega), if_neg q]
  · rw [if_neg hx, if_neg hx]
theorem b_paidUntil {m : mz_M} (h : Rel m) (x : Int) : both 90 221 [mz_i x] m := by
  obtain ⟨N, hw⟩ := h.1
  refine b_read h (sp_X8_paidUntil m x) (sp_X9_paidUntil m x) ?_
  by_cases hx : 0 ≤ x ∧ x < 16
  · rw [if_pos hx, if_pos hx]
    have a := hw.2.2.2.1 x.toNat (by omega)
    have b := a.1
    have d := a.2.1
    generalize 18 + 24 + x.toNat = k at a b d ⊢
    rw [b.2.1]
    by_cases q : m k 1 = 1
    · rw [if_pos (by omega), if_pos q]; exact b.2.2.2.1
    · rw [if_neg (by omega), if_neg q]
  · rw [if_neg hx, if_neg hx]
theorem b_placeOf {m : mz_M} (h : Rel m) (x : Int) : both 91 225 [mz_i x] m := by
  obtain ⟨N, hw⟩ := h.1
  refine b_read h (sp_X8_placeOf m x) (sp_X9_placeOf m x) ?_
  by_cases hx : 0 ≤ x ∧ x < 16
  · rw [if_pos hx, if_pos hx]
    have a := hw.2.2.2.1 x.toNat (by omega)
    have b := a.1
    have d := a.2.1
    generalize 18 + 24 + x.toNat = k at a b d ⊢
    rw [b.2.1]
    by_cases q : m k 1 ≠ 0
    · rw [if_pos (by omega), if_pos q]; exact b.2.2.1
    · rw [if_neg (by omega), if_neg q]
  · rw [if_neg hx, if_neg hx]
theorem b_state {m : mz_M} (h : Rel m) (x : Int) : both 94 181 [mz_i x] m := by
  obtain ⟨N, hw⟩ := h.1
  refine b_read h (sp_X8_state m x) (sp_X9_state m x) ?_
  by_cases hx : 0 ≤ x ∧ x < 16
  · rw [if_pos hx, if_pos hx]
    exact (hw.2.2.2.1 x.toNat (by omega)).1.2.1
  · rw [if_neg hx, if_neg hx]
theorem b_ticketCount {m : mz_M} (h : Rel m) (x : Int) : both 95 182 [mz_i x] m := by
  obtain ⟨N, hw⟩ := h.1
  have hN := hw.2.2.2.2.1
  refine b_read h (sp_X8_ticketCount m x) (sp_X9_ticketCount m x (n := N) hN.2.1 (by omega)) ?_
  by_cases hx : 0 ≤ x ∧ x < 16
  · rw [if_pos hx, if_pos hx]
    have := (hw.2.2.2.1 x.toNat (by omega)).2.2.1.1.1
    rw [Int.toNat_of_nonneg hx.1] at this
    exact this.symm
  · rw [if_neg hx, if_neg hx]
theorem b_due {m : mz_M} (h : Rel m) (x : Int) : both 147 156 [mz_i x] m := by
  obtain ⟨N, hw⟩ := h.1
  refine b_read h (sp_X8_due m x fun hx => (RW_cmy hw (by omega)).1) (sp_X9_due m x (n := N) (RW_mAm hw).1 (RW_mMy hw)) ?_
  by_cases hx : 0 ≤ x ∧ x < 16
  · rw [if_pos hx, if_pos hx]
    exact q_ow hw (by omega)
  · rw [if_neg hx, if_neg hx]
theorem RW_t {m : mz_M} {u N : Nat} {V : Nat → Int} (h : RW m u V N) : ∃ t : Nat, m u 3 = t ∧ t ≤ 10079 := by
  have := h.2.1.1
  obtain ⟨t, ht⟩ := nat_i this.2.1
  exact ⟨t, ht, by omega⟩
theorem b_overtime {m : mz_M} (h : Rel m) (x : Int) : both 250 220 [mz_i x] m := by
  obtain ⟨N, hw⟩ := h.1
  obtain ⟨t, ht, ht2⟩ := RW_t hw
  refine b_read h (sp_X8_overtime m x ht (by omega) fun c hc => (RW_caO hw c hc).1) (sp_X9_overtime m x (n := N) (RW_mVO hw)) ?_
  by_cases hx : 0 ≤ x ∧ x < 16
  · rw [if_pos hx, if_pos hx]
    have hc : x.toNat < 16 := by omega
    have b := (hw.2.2.2.1 x.toNat hc).1
    have o := q_ov hw ht hc 0
    rw [lat_0, Nat.add_zero] at o
    rw [b.2.1, o]
    by_cases q : m (18 + 24 + x.toNat) 1 = 1
    · rw [if_pos (by omega), if_pos q]; rfl
    · rw [if_neg (by omega), if_neg q]
  · rw [if_neg hx, if_neg hx]
theorem b_ticketNow {m : mz_M} (h : Rel m) (x : Int) : both 253 230 [mz_i x] m := by
  obtain ⟨N, hw⟩ := h.1
  obtain ⟨t, ht, ht2⟩ := RW_t hw
  refine b_read h (sp_X8_ticketNow m x ht (by omega) fun c hc => (RW_caO hw c hc).1) (sp_X9_ticketNow m x (n := N) (RW_mVO hw)) ?_
  by_cases hx : 0 ≤ x ∧ x < 16
  · rw [if_pos hx, if_pos hx]
    have o := q_fi hw ht (show x.toNat < 16 by omega) 0
    rw [lat_0, Nat.add_zero] at o
    exact o
  · rw [if_neg hx, if_neg hx]
theorem b_towable {m : mz_M} (h : Rel m) : both 150 183 [] m := by
  obtain ⟨N, hw⟩ := h.1
  have ht := hw.2.1.1
  refine b_read h (sp_X8_towable m (RW_cnO hw) (by omega)) (sp_X9_towable m (RW_mSi hw)) ?_
  rw [bs_congr fun c hc => q_tw hw hc]
theorem b_owedInAll {m : mz_M} (h : Rel m) : both 210 171 [] m := by
  obtain ⟨N, hw⟩ := h.1
  refine b_read h (sp_X8_owedInAll m fun c hc => RW_cmy hw hc) (sp_X9_owedInAll m (n := N) (RW_mAm hw).1 fun c hc => ⟨RW_mMy hw c hc, by rw [q_ow hw hc]; exact (RW_cmy hw hc).2⟩) ?_
  exact sm_congr fun c hc => q_ow hw hc
theorem b_longestStay {m : mz_M} (h : Rel m) (x : Int) : both 89 166 [mz_i x] m := by
  obtain ⟨N, hw⟩ := h.1
  refine b_read h (sp_X8_longestStay m x) (sp_X9_longestStay m x) ?_
  by_cases hx : 0 ≤ x ∧ x ≤ 3
  · rw [if_pos hx, if_pos hx]
    exact (hw.1.2.1.2.2.2 x.toNat (by omega)).1
  · rw [if_neg hx, if_neg hx]
theorem b_zone {m : mz_M} (h : Rel m) (x : Int) : both 96 185 [mz_i x] m := by
  obtain ⟨N, hw⟩ := h.1
  have hs := RW_sz hw
  refine b_read h (sp_X8_zone m x hs.2.2) (sp_X9_zone m x (RW_pl hw)) ?_
  rw [hs.1]
  by_cases hx : 0 ≤ x ∧ x < m (18 + 1) 0
  · rw [if_pos hx, if_pos hx]
    exact (hw.1.2.1.2.1 x.toNat (by omega)).1
  · rw [if_neg hx, if_neg hx]
theorem b_carsAt {m : mz_M} (h : Rel m) (x : Int) : both 207 153 [mz_i x] m := by
  obtain ⟨N, hw⟩ := h.1
  have hs := RW_sz hw
  refine b_read h (sp_X8_carsAt m x (RW_cnO hw)) (sp_X9_carsAt m x (RW_pl hw)) ?_
  rw [hs.1, bs_congr fun c hc => q_at hw x hc]
theorem q_free {m : mz_M} {u N : Nat} {V : Nat → Int} (h : RW m u V N) (x : Int) : sm (fun c => if mAt V x c = true then 1 else 0) 16 = sm (fun c => if cos m u x c then 1 else 0) 16 := sm_congr fun c hc => by rw [q_at h x hc]
theorem b_freeSpaces {m : mz_M} (h : Rel m) (x : Int) : both 247 217 [mz_i x] m := by
  obtain ⟨N, hw⟩ := h.1
  have hs := RW_sz hw
  have hr := (RW_rows hw).1
  refine b_read h (sp_X8_freeSpaces m x (RW_cnO hw) hs.2.2 fun i hi => by have := (hr i hi).1; have e := (hw.1.2.1.2.1 i hi).2.1; rw [e] at this; exact this) (sp_X9_freeSpaces m x (RW_pl hw) fun i hi => (hr i hi).1) ?_
  rw [hs.1]
  by_cases hx : 0 ≤ x ∧ x < m (18 + 1) 0
  · rw [if_pos hx, if_pos hx, q_free hw x, (hw.1.2.1.2.1 x.toNat (by omega)).2.1]
  · rw [if_neg hx, if_neg hx]
theorem b_poundFree {m : mz_M} (h : Rel m) (x : Int) : both 149 175 [mz_i x] m := by
  obtain ⟨N, hw⟩ := h.1
  have hs := RW_sz hw
  have hr := (RW_rows hw).1
  refine b_read h (sp_X8_poundFree m x hs.2.2 fun i hi => by have := (hr i hi).2; have e := (hw.1.2.1.2.1 i hi).2.2; rw [e] at this; exact this) (sp_X9_poundFree m x (RW_pl hw) fun i hi => (hr i hi).2) ?_
  rw [hs.1]
  by_cases hx : 0 ≤ x ∧ x < m (18 + 1) 0
  · rw [if_pos hx, if_pos hx]
    have e := (hw.1.2.1.2.1 x.toNat (by omega)).2.2
    have d : 0 ≤ m 22 x.toNat := by have := (hw.1.1.2.2.2.1 x.toNat (by omega)).1.1; exact this
    have e' : m 154 (223 + x.toNat) = m 22 x.toNat := e
    rw [e', sm_congr fun c hc => q_pn hw x hc]
    by_cases q : m 22 x.toNat = 0
    · rw [if_pos q, if_neg (by omega)]
    · rw [if_neg q, if_pos (by omega)]
  · rw [if_neg hx, if_neg hx]
theorem b_distance {m : mz_M} (h : Rel m) (x y : Int) : both 146 155 [mz_i x, mz_i y] m := by
  obtain ⟨N, hw⟩ := h.1
  have hs := RW_sz hw
  refine b_read h (sp_X8_distance m x y hs.2.2) (sp_X9_distance m x y (RW_pl hw)) ?_
  rw [hs.1]
  by_cases hx : (0 ≤ x ∧ x < m (18 + 1) 0) ∧ 0 ≤ y ∧ y < m (18 + 1) 0
  · rw [if_pos hx, if_pos hx]
    have e := (hw.1.2.2 (10 * x.toNat + y.toNat) (by omega)).2
    rw [show 103 + 10 * x.toNat + y.toNat = 103 + (10 * x.toNat + y.toNat) by omega, e]
  · rw [if_neg hx, if_neg hx]
theorem fst1_congr {P Q : Nat → Prop} [DecidablePred P] [DecidablePred Q] : ∀ r j, (∀ i, j ≤ i → i < j + r → (P i ↔ Q i)) → fst1 P r j = fst1 Q r j := by
  intro r
  induction r with
  | zero => intros; rfl
  | succ r ih =>
    intro j h
    unfold fst1
    rw [ih (j + 1) (fun i h1 h2 => h i (by omega) (by omega))]
    by_cases hp : P j
    · rw [if_pos hp, if_pos ((h j (Nat.le_refl _) (by omega)).mp hp)]
    · rw [if_neg hp, if_neg (fun q => hp ((h j (Nat.le_refl _) (by omega)).mpr q))]
theorem b_nextOnWay {m : mz_M} (h : Rel m) (x y : Int) : both 209 168 [mz_i x, mz_i y] m := by
  obtain ⟨N, hw⟩ := h.1
  have hs := RW_sz hw
  obtain ⟨n, hn⟩ := nat_i (show 0 ≤ m (18 + 1) 0 by omega)
  refine b_read h (sp_X8_nextOnWay m (n := n) x y (by omega) hn (RW_road hw) (RW_way hw)) (sp_X9_nextOnWay m (n := n) x y (by omega) (hs.1.trans hn) (RW_wyO hw)) ?_
  rw [hs.1]
  by_cases hx : (0 ≤ x ∧ x < m (18 + 1) 0) ∧ (0 ≤ y ∧ y < m (18 + 1) 0) ∧ x ≠ y
  · rw [if_pos hx, if_pos hx]
    have ew : ∀ a b, a < 10 → b < 10 → m 154 (103 + 10 * a + b) = m (18 + 6) (10 * a + b) := fun a b ha hb => by
      rw [show 103 + 10 * a + b = 103 + (10 * a + b) by omega]
      exact (hw.1.2.2 (10 * a + b) (by omega)).2
    have er : ∀ a b, a < 10 → b < 10 → m 154 (3 + 10 * a + b) = m (18 + 5) (10 * a + b) := fun a b ha hb => by
      rw [show 3 + 10 * a + b = 3 + (10 * a + b) by omega]
      exact hw.1.2.1.2.2.1 (10 * a + b) (by omega)
    unfold fsR
    rw [ew _ _ (by omega) (by omega)]
    have ef := fst1_congr (P := fun p => m 154 (3 + 10 * x.toNat + p) + m 154 (103 + 10 * p + y.toNat) = m (18 + 6) (10 * x.toNat + y.toNat)) (Q := fun p => m (19 + 4) (10 * x.toNat + p) + m (19 + 5) (10 * p + y.toNat) = m (19 + 5) (10 * x.toNat + y.toNat)) n 0 (fun i h1 h2 => by
      rw [er _ _ (by omega) (by omega), ew _ _ (by omega) (by omega)])
    rw [ef]
  · rw [if_neg hx, if_neg hx]
theorem b_rate {m : mz_M} (h : Rel m) (z x : Int) : both 92 177 [mz_i z, mz_i x] m := by
  obtain ⟨N, hw⟩ := h.1
  refine b_read h (sp_X8_rate m z x) (sp_X9_rate m z x) ?_
  by_cases hx : (0 ≤ z ∧ z ≤ 3) ∧ 0 ≤ x ∧ x ≤ 23
  · rw [if_pos hx, if_pos hx]
    have := (hw.1.2.1.2.2.2 z.toNat (by omega)).2 x.toNat (by omega)
    rw [show 18 + 1 + 8 + 2 * z.toNat = 19 + 7 + 2 * z.toNat + 1 by omega] at this
    exact this
  · rw [if_neg hx, if_neg hx]
theorem b_paidSoon {m : mz_M} (h : Rel m) (x y : Int) : both 148 172 [mz_i x, mz_i y] m := by
  obtain ⟨N, hw⟩ := h.1
  have hs := RW_sz hw
  have ht := hw.2.1.1
  refine b_read h (sp_X8_paidSoon m x y (RW_cnO hw) (by omega)) (sp_X9_paidSoon m x y (RW_pl hw) (by omega)) ?_
  rw [hs.1, ht.1, bs_congr fun c hc => q_ps hw x (m 18 3 + y) hc]
theorem b_price {m : mz_M} (h : Rel m) (x s k : Int) : both 211 176 [mz_i x, mz_i s, mz_i k] m := by
  obtain ⟨N, hw⟩ := h.1
  have hs := RW_sz hw
  have hR : ∀ z, z < 4 → okR (m (27 + 2 * z)) := fun z hz k hk => (hw.1.1.2.2.2.2.2.2 z hz).2 k hk
  refine b_read h (sp_X8_price m x s k hR) (sp_X9_price m x s k (RW_pl hw) (RW_mVO hw).2.2.1 (RW_mRo hw)) ?_
  rw [hs.1]
  by_cases hx : (0 ≤ x ∧ x < m (18 + 1) 0) ∧ (0 ≤ s ∧ s ≤ 10079) ∧ 0 ≤ k ∧ k ≤ 1440
  · rw [if_pos hx, if_pos hx]
    have z := q_zone hw (show x.toNat < 10 by omega)
    unfold prc
    rw [cost_congr z.2.1]
  · rw [if_neg hx, if_neg hx]
theorem b_cheapestStart {m : mz_M} (h : Rel m) (x k : Int) : both 246 154 [mz_i x, mz_i k] m := by
  obtain ⟨N, hw⟩ := h.1
  have hs := RW_sz hw
  obtain ⟨t, ht, ht2⟩ := RW_t hw
  have hR : ∀ z, z < 4 → okR (m (27 + 2 * z)) := fun z hz k hk => (hw.1.1.2.2.2.2.2.2 z hz).2 k hk
  refine b_read h (sp_X8_cheapestStart m x k ht (by omega) hR) (sp_X9_cheapestStart m x k (RW_pl hw) (RW_mVO hw).2.2.1 (RW_mRo hw) (T := t) (hw.2.1.1.1.trans ht) (by omega)) ?_
  rw [hs.1]
  by_cases hx : (0 ≤ x ∧ x < m (18 + 1) 0) ∧ 1 ≤ k ∧ k ≤ 600
  · rw [if_pos hx, if_pos hx]
    have z := q_zone hw (show x.toNat < 10 by omega)
    rw [am_congr (f := prc (mR (m 154) (mzA (m 154) x.toNat)) k.toNat) (g := prc (m (zoA m 18 x.toNat + 1)) k.toNat) (fun s => by unfold prc; rw [cost_congr z.2.1])]
  · rw [if_neg hx, if_neg hx]
theorem b_minutesFor {m : mz_M} (h : Rel m) (x k : Int) : both 249 167 [mz_i x, mz_i k] m := by
  obtain ⟨N, hw⟩ := h.1
  have hs := RW_sz hw
  obtain ⟨t, ht, ht2⟩ := RW_t hw
  have hR : ∀ z, z < 4 → okR (m (27 + 2 * z)) := fun z hz k hk => (hw.1.1.2.2.2.2.2.2 z hz).2 k hk
  have hS : ∀ z, z < 4 → 0 ≤ m (26 + 2 * z) 1 ∧ m (26 + 2 * z) 1 < 1000 := fun z hz => by
    have := (hw.1.1.2.2.2.2.2.2 z hz).1
    show 0 ≤ m (18 + 1 + 7 + 2 * z) 1 ∧ m (18 + 1 + 7 + 2 * z) 1 < 1000
    omega
  refine b_read h (sp_X8_minutesFor m x k ht (by omega) hR hS) (sp_X9_minutesFor m x k (RW_pl hw) (RW_mVO hw).2.2.1 (RW_mRo hw) (T := t) (hw.2.1.1.1.trans ht) (by omega) (RW_rows hw).2) ?_
  rw [hs.1]
  by_cases hx : (0 ≤ x ∧ x < m (18 + 1) 0) ∧ 0 ≤ k ∧ k ≤ 9999
  · rw [if_pos hx, if_pos hx]
    have z := q_zone hw (show x.toNat < 10 by omega)
    rw [lu_congr z.2.1, z.2.2]
  · rw [if_neg hx, if_neg hx]
