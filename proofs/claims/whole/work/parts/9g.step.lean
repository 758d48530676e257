/-! A step of the world that ends with an entry of the log: the relation is kept. -/
theorem tke_app {P Q : Nat → Prop} [DecidablePred P] [DecidablePred Q] : ∀ (r j : Nat) (q : Int), (∀ i, j ≤ i → i < j + r → (P i ↔ Q i)) → ¬ Q (j + r) → tke Q (r + 1) j q = tke P r j q := by
  intro r
  induction r with
  | zero =>
    intro j q _ h
    rw [Nat.add_zero] at h
    show (if Q j then _ else none) = none
    rw [if_neg h]
  | succ r ih =>
    intro j q e h
    show (if Q j then (if q = 0 then some j else tke Q (r + 1) (j + 1) (q - 1)) else tke Q (r + 1) (j + 1) q) = (if P j then (if q = 0 then some j else tke P r (j + 1) (q - 1)) else tke P r (j + 1) q)
    rw [ih (j + 1) (q - 1) (fun i h1 h2 => e i (by omega) (by omega)) (by rw [show j + 1 + r = j + (r + 1) by omega]; exact h), ih (j + 1) q (fun i h1 h2 => e i (by omega) (by omega)) (by rw [show j + 1 + r = j + (r + 1) by omega]; exact h)]
    have := e j (Nat.le_refl _) (by omega)
    by_cases w : P j
    · rw [if_pos w, if_pos (this.mp w)]
    · rw [if_neg w, if_neg (fun y => w (this.mpr y))]
/-- what the row says of a car's tickets -/
def car3 (m : mz_M) (u : Nat) (V : Nat → Int) (N c : Nat) : Prop := (m (u + 24 + c) 5 = mTc V N c ∧ 0 ≤ m (u + 24 + c) 6 ∧ m (u + 24 + c) 6 ≤ m (u + 24 + c) 5 ∧ m (u + 24 + c) 5 - m (u + 24 + c) 6 ≤ 3) ∧ (m (u + 24 + c) 1 ≤ 1 → m (u + 24 + c) 5 - m (u + 24 + c) 6 ≤ 2) ∧ m (u + 24 + c) 8 = sm (mUA V c) N ∧ (∀ i, tke (fun i => me V i 1 = 4 ∧ me V i 2 = c) N 0 (m (u + 24 + c) 5 - 1) = some i → me V i 0 = m (u + 24 + c) 7)
theorem car3_app {m m' : mz_M} {u N c : Nat} {V V' : Nat → Int} (h : car3 m u V N c) (hk : ∀ w, 5 ≤ w → w ≤ 8 → m' (u + 24 + c) w = m (u + 24 + c) w) (h2 : m' (u + 24 + c) 1 ≤ 1 → m (u + 24 + c) 5 - m (u + 24 + c) 6 ≤ 2) (he : ∀ i, i < N → me V' i 0 = me V i 0 ∧ me V' i 1 = me V i 1 ∧ me V' i 2 = me V i 2 ∧ me V' i 3 = me V i 3 ∧ (me V i 2 = c → me V' i 4 = me V i 4)) (hn : ¬ (me V' N 1 = 4 ∧ me V' N 2 = c)) : car3 m' u V' (N + 1) c := by
  obtain ⟨⟨a1, a2, a3, a4⟩, a5, a6, a7⟩ := h
  unfold car3
  rw [hk 5 (by omega) (by omega), hk 6 (by omega) (by omega), hk 7 (by omega) (by omega), hk 8 (by omega) (by omega)]
  have eT : mTc V' (N + 1) c = mTc V N c := by
    show sm _ N + (if me V' N 1 = 4 ∧ me V' N 2 = c then 1 else 0) = _
    rw [if_neg hn, Int.add_zero]
    exact sm_congr fun i hi => by rw [(he i hi).2.1, (he i hi).2.2.1]
  have eU : sm (mUA V' c) (N + 1) = sm (mUA V c) N := by
    show sm (mUA V' c) N + mUA V' c N = _
    rw [show mUA V' c N = 0 from if_neg (fun q => hn ⟨q.1, q.2.1⟩), Int.add_zero]
    refine sm_congr fun i hi => ?_
    have e := he i hi
    unfold mUA
    rw [e.2.1, e.2.2.1, e.2.2.2.1]
    by_cases q : me V i 2 = c
    · rw [e.2.2.2.2 q]
    · rw [if_neg (fun y => q y.2.1), if_neg (fun y => q y.2.1)]
  have eK : ∀ q : Int, tke (fun i => me V' i 1 = 4 ∧ me V' i 2 = c) (N + 1) 0 q = tke (fun i => me V i 1 = 4 ∧ me V i 2 = c) N 0 q := fun q => by
    refine tke_app (P := fun i => me V i 1 = 4 ∧ me V i 2 = c) N 0 q (fun i _ hi => ?_) (by rw [Nat.zero_add]; exact hn)
    rw [(he i (by omega)).2.1, (he i (by omega)).2.2.1]
  refine ⟨⟨a1.trans eT.symm, a2, a3, a4⟩, h2, a6.trans eU.symm, fun i hi => ?_⟩
  rw [eK] at hi
  have := tke_lt _ _ _ _ hi
  rw [(he i (by omega)).1]
  exact a7 i hi
theorem twnR_congr1 {m m' : mz_M} {u : Nat} {V : Nat → Int} (e : ∀ a, u < a → a < u + 17 → m' a = m a) (h : twnR m u V) : twnR m' u V := by
  obtain ⟨⟨a1, a2, a3, a4, a5, a6, a7⟩, ⟨b1, b2, b3, b4⟩, c⟩ := h
  unfold twnR tW tE
  rw [e (u + 1) (by omega) (by omega), e (u + 1 + 3) (by omega) (by omega), e (u + 1 + 1) (by omega) (by omega), e (u + 1 + 2) (by omega) (by omega), e (u + 1 + 4) (by omega) (by omega), e (u + 6) (by omega) (by omega)]
  refine ⟨⟨a1, a2, a3, a4, a5, a6, fun z hz => ?_⟩, ⟨b1, b2, b3, fun z hz => ?_⟩, c⟩
  · rw [e (u + 1 + 7 + 2 * z) (by omega) (by omega), e (u + 1 + 8 + 2 * z) (by omega) (by omega)]; exact a7 z hz
  · rw [e (u + 1 + 7 + 2 * z) (by omega) (by omega), e (u + 1 + 8 + 2 * z) (by omega) (by omega)]; exact b4 z hz
theorem RW_op {m M : mz_M} {u N c : Nat} {V W : Nat → Int} {k x : Int} (h : RW m u V N) (hN : N + 1 ≤ 372) (hc : c < 16)
    (hM : ∀ a, u < a → a < u + 40 → a ≠ u + 4 → a ≠ u + 22 → a ≠ u + 23 → a ≠ u + 24 + c → M a = m a) (hM4 : M (u + 4) = m (u + 4))
    (hW0 : ∀ j, j = 0 ∨ (3 ≤ j ∧ j < 333) ∨ j = 429 → W j = V j) (hWc : ∀ j, 333 ≤ j → j < 429 → (j < 333 + 6 * c ∨ 333 + 6 * c + 6 ≤ j) → W j = V j)
    (hWe : ∀ i w, i < N → w < 5 → (w ≠ 4 ∨ me V i 2 ≠ c) → me W i w = me V i w)
    (tim : timR M u W) (hp : ∀ p : Nat, p < 10 → sm (pnd M u p) 16 ≤ m (u + 4) p)
    (hk : 1 ≤ k ∧ k ≤ 10) (hx : 0 ≤ x ∧ x ≤ 100000) (hx4 : k = 4 → x ≤ 8500) (hx1 : k = 1 → x < m (u + 1) 0) (hx2 : k = 2 → ∃ j, j < N ∧ me V j 1 = 1 ∧ me V j 2 = c)
    (car : carR M u (vL W k c x) (N + 1) c)
    (ent : ∀ i, i < N → me V i 2 = c → me W i 4 = if me V i 1 = 4 ∧ mTc V i c < M (u + 24 + c) 6 then 1 else 0)
    (entN : k = 4 → ¬ mTc V N c < M (u + 24 + c) 6) : RW (lgA (u + 17) (M u 3) k c x M) u (vL W k c x) (N + 1) := by
  obtain ⟨h1, h2, h3, h4, ⟨h5, h6, h7⟩, h8⟩ := h
  have z : M (u + 17) 0 = N := by rw [hM (u + 17) (by omega) (by omega) (by omega) (by omega) (by omega) (by omega)]; exact h5
  have zW : W 429 = N := by rw [hW0 429 (by omega)]; exact h6
  have lO : ∀ a j, (a < u + 17 ∨ u + 17 + 4 < a) → lgA (u + 17) (M u 3) k c x M a j = M a j := fun a j ha => lgA_o ha
  have lO' : ∀ a, (a < u + 17 ∨ u + 17 + 4 < a) → lgA (u + 17) (M u 3) k c x M a = M a := fun a ha => funext fun j => lO a j ha
  have lS : ∀ a i, u + 17 < a → i < N → lgA (u + 17) (M u 3) k c x M a i = M a i := fun a i h1 h2 => lgA_s (by omega) (by omega) h1
  have vlo : ∀ j, j < 429 → vL W k c x j = W j := fun j hj => vL_lo hj
  have ve : ∀ i w, i < N → w < 5 → me (vL W k c x) i w = me W i w := fun i w h1 h2 => vL_e zW h1 h2
  have vn := vL_0 (V := W) (k := k) (c := c) (x := x) zW
  have eV : ∀ i w, i < N → w < 5 → (w ≠ 4 ∨ me V i 2 ≠ c) → me (vL W k c x) i w = me V i w := fun i w h1 h2 h3 => by rw [ve i w h1 h2, hWe i w h1 h2 h3]
  have eTc : ∀ i c', i ≤ N → mTc (vL W k c x) i c' = mTc V i c' := fun i c' hi => sm_congr fun j hj => by rw [eV j 1 (by omega) (by omega) (by omega), eV j 2 (by omega) (by omega) (by omega)]
  have Mo : ∀ c', c' < 16 → c' ≠ c → M (u + 24 + c') = m (u + 24 + c') := fun c' h1 h2 => hM _ (by omega) (by omega) (by omega) (by omega) (by omega) (by omega)
  have e4 : M (u + 4) = m (u + 4) := hM4
  have lz : lgA (u + 17) (M u 3) k c x M (u + 17) 0 = ((N + 1 : Nat) : Int) := by rw [lgA_z, if_pos (by omega), z]; omega
  refine ⟨?_, ?_, fun p hp' => ?_, fun c' hc' => ?_, ⟨lz, by rw [vL_z, zW]; omega, hN⟩, fun i hi => ?_⟩
  · have t := twnR_congr1 (m' := lgA (u + 17) (M u 3) k c x M) (fun a q1 q2 => by
      rw [lO' a (by omega)]
      by_cases q : a = u + 4
      · rw [q]; exact hM4
      · exact hM a (by omega) (by omega) (by omega) (by omega) (by omega) (by omega)) h1
    obtain ⟨t1, ⟨b1, b2, b3, b4⟩, t3⟩ := t
    have g : ∀ j, j = 0 ∨ (3 ≤ j ∧ j < 333) → vL W k c x j = V j := fun j hj => by rw [vlo j (by omega), hW0 j (by omega)]
    refine ⟨t1, ⟨?_, fun p hp => ?_, fun j hj => ?_, fun z hz => ⟨?_, fun h hh => ?_⟩⟩, fun j hj => ?_⟩
    · rw [g _ (by omega)]; exact b1
    · rw [g _ (by omega), g _ (by omega), g _ (by omega)]; exact b2 p hp
    · rw [g _ (by omega)]; exact b3 j hj
    · rw [g _ (by omega)]; exact (b4 z hz).1
    · rw [g _ (by omega)]; exact (b4 z hz).2 h hh
    · rw [g _ (by omega)]; exact t3 j hj
  · unfold timR at tim ⊢
    rw [vlo _ (by omega), vlo _ (by omega), lO' u (by omega), lO' (u + 4) (by omega), lO' (u + 1) (by omega)]
    exact tim
  · have : sm (pnd (lgA (u + 17) (M u 3) k c x M) u p) 16 = sm (pnd M u p) 16 := sm_congr fun i hi => by unfold pnd; rw [lO' _ (by omega)]
    rw [this, lO' (u + 4) (by omega), e4]
    exact hp p hp'
  · by_cases q : c' = c
    · subst q
      exact carR_congr (by rw [lO' _ (by omega)]) (lO' _ (by omega)) car
    · have a := h4 c' hc'
      refine carR_congr (m := M) (by rw [lO' _ (by omega)]) (lO' _ (by omega)) ?_
      have e := Mo c' hc' q
      have eS : M (u + 1) 0 = m (u + 1) 0 := by rw [hM (u + 1) (by omega) (by omega) (by omega) (by omega) (by omega) (by omega)]
      have w : ∀ w, w < 6 → mc (vL W k c x) c' w = mc V c' w := fun w hw => by
        unfold mc
        rw [vlo _ (by omega), hWc _ (by omega) (by omega) (by omega)]
      have a3 := car3_app (m' := M) (V' := vL W k c x) (show car3 m u V N c' from a.2.2.1) (fun w _ _ => by rw [e]) (by rw [e]; exact a.2.2.1.2.1) (fun i hi => ⟨eV i 0 hi (by omega) (by omega), eV i 1 hi (by omega) (by omega), eV i 2 hi (by omega) (by omega), eV i 3 hi (by omega) (by omega), fun y => eV i 4 hi (by omega) (Or.inr (by rw [y]; omega))⟩) (by rw [vn.2.1, vn.2.2.1]; omega)
      refine ⟨?_, ?_, a3, fun q1 => ?_⟩
      · rw [w 0 (by omega), w 1 (by omega), w 2 (by omega), w 3 (by omega), w 4 (by omega), w 5 (by omega), e]
        exact a.1
      · rw [e, eS]
        have := a.2.1
        omega
      · rw [e] at q1
        obtain ⟨j, j1, j2, j3⟩ := a.2.2.2 q1
        exact ⟨j, by omega, by rw [eV j 1 j1 (by omega) (by omega)]; exact j2, by rw [eV j 2 j1 (by omega) (by omega)]; exact j3⟩
  · have eS : lgA (u + 17) (M u 3) k c x M (u + 1) 0 = m (u + 1) 0 := by rw [lO' _ (by omega), hM (u + 1) (by omega) (by omega) (by omega) (by omega) (by omega) (by omega)]
    rcases Nat.lt_or_ge i N with q | q
    · have a := h8 i q
      have ml : ∀ a, u + 17 < a → a < u + 22 → lgA (u + 17) (M u 3) k c x M a i = m a i := fun a q1 q2 => by rw [lS a i q1 q, hM a (by omega) (by omega) (by omega) (by omega) (by omega) (by omega)]
      unfold entR
      rw [eV i 0 q (by omega) (by omega), eV i 1 q (by omega) (by omega), eV i 2 q (by omega) (by omega), eV i 3 q (by omega) (by omega), eS, ml (u + 18) (by omega) (by omega), ml (u + 19) (by omega) (by omega), ml (u + 20) (by omega) (by omega), ml (u + 21) (by omega) (by omega)]
      refine ⟨a.1, a.2.1, fun y => ?_, ?_⟩
      · obtain ⟨j, j1, j2, j3⟩ := a.2.2.1 y
        exact ⟨j, j1, by rw [eV j 1 (by omega) (by omega) (by omega)]; exact j2, by rw [eV j 2 (by omega) (by omega) (by omega)]; exact j3⟩
      · rw [eTc i _ (by omega), lO' _ (by omega)]
        by_cases y : me V i 2 = c
        · rw [ve i 4 q (by omega), ent i q y, y, Int.toNat_natCast]
        · rw [eV i 4 q (by omega) (Or.inr y), Mo _ (by have := a.2.1.2.2.1; omega) (by have := a.2.1.2.2.1; omega)]
          exact a.2.2.2
    · obtain rfl : i = N := by omega
      unfold entR
      have le : ∀ d, d = 1 ∨ d = 2 ∨ d = 3 ∨ d = 4 → True := fun _ _ => trivial
      have l1 : lgA (u + 17) (M u 3) k c x M (u + 18) i = M u 3 ∧ lgA (u + 17) (M u 3) k c x M (u + 19) i = k ∧ lgA (u + 17) (M u 3) k c x M (u + 20) i = c ∧ lgA (u + 17) (M u 3) k c x M (u + 21) i = x := by
        unfold lgA
        rw [if_pos (by omega), z, Int.toNat_natCast]
        unfold mz_up
        simp
      have tm := tim.1
      rw [l1.1, l1.2.1, l1.2.2.1, l1.2.2.2, vn.1, vn.2.1, vn.2.2.1, vn.2.2.2.1, vn.2.2.2.2, eS, eTc i _ (Nat.le_refl _), lO' _ (by omega), Int.toNat_natCast]
      refine ⟨⟨tm.1, rfl, rfl, rfl⟩, ⟨⟨by rw [tm.1]; exact tm.2.1, by rw [tm.1]; exact tm.2.2⟩, hk, ⟨by omega, by omega⟩, hx, hx4, hx1⟩, fun y => ?_, ?_⟩
      · obtain ⟨j, j1, j2, j3⟩ := hx2 y
        exact ⟨j, by omega, by rw [eV j 1 j1 (by omega) (by omega)]; exact j2, by rw [eV j 2 j1 (by omega) (by omega)]; exact j3⟩
      · rw [if_neg]
        exact fun y => entN y.1 y.2
theorem vU_e {V : Nat → Int} {j i : Nat} {v : Int} (h : i = j) : vU V j v i = v := if_pos h
theorem lgA_f {l a : Nat} {t k c x : Int} {m : mz_M} (h : a < l ∨ l + 4 < a) : lgA l t k c x m a = m a := funext fun _ => lgA_o h
/-- a step in which no ticket is written or paid -/
theorem RW_op1 {m M : mz_M} {u N c : Nat} {V W : Nat → Int} {k x : Int} (h : RW m u V N) (hN : N + 1 ≤ 372) (hc : c < 16)
    (hM : ∀ a, u < a → a ≠ u + 24 + c → M a = m a) (hK : ∀ w, w = 0 ∨ (5 ≤ w ∧ w ≤ 8) → M (u + 24 + c) w = m (u + 24 + c) w)
    (hW : ∀ j, j = 0 ∨ (3 ≤ j ∧ j < 333 + 6 * c) ∨ 333 + 6 * c + 6 ≤ j → W j = V j)
    (tim : timR M u W) (hp : ∀ p : Nat, p < 10 → pnd M u p c = 1 → sm (pnd M u p) 16 ≤ m (u + 4) p)
    (hk : 1 ≤ k ∧ k ≤ 10 ∧ k ≠ 4) (hx : 0 ≤ x ∧ x ≤ 100000) (hx1 : k = 1 → x < m (u + 1) 0) (hx2 : k = 2 → m (u + 24 + c) 1 ≠ 0)
    (c1 : mc W c 0 = M (u + 24 + c) 1 ∧ mc W c 1 = M (u + 24 + c) 2 ∧ mc W c 2 = M (u + 24 + c) 3 ∧ mc W c 3 = M (u + 24 + c) 10 ∧ mc W c 4 = M (u + 24 + c) 9 ∧ mc W c 5 = M (u + 24 + c) 4)
    (c2 : (0 ≤ M (u + 24 + c) 1 ∧ M (u + 24 + c) 1 ≤ 3) ∧ (0 ≤ M (u + 24 + c) 2 ∧ M (u + 24 + c) 2 < m (u + 1) 0) ∧ (0 ≤ M (u + 24 + c) 3 ∧ M (u + 24 + c) 3 ≤ 10700) ∧ (0 ≤ M (u + 24 + c) 10 ∧ M (u + 24 + c) 10 ≤ 100000 * ((N + 1 : Nat) : Int)) ∧ ((0 ≤ M (u + 24 + c) 9 ∧ M (u + 24 + c) 9 ≤ 23000) ∧ (M (u + 24 + c) 1 ≤ 2 → M (u + 24 + c) 9 ≤ 8000) ∧ (M (u + 24 + c) 1 ≤ 1 → M (u + 24 + c) 9 = 0)) ∧ (0 ≤ M (u + 24 + c) 4 ∧ M (u + 24 + c) 4 ≤ 10079))
    (c3 : M (u + 24 + c) 1 ≤ 1 → m (u + 24 + c) 5 - m (u + 24 + c) 6 ≤ 2)
    (c4 : M (u + 24 + c) 1 ≠ 0 → k = 1 ∨ m (u + 24 + c) 1 ≠ 0) : RW (lgA (u + 17) (M u 3) k c x M) u (vL W k c x) (N + 1) := by
  have a := h.2.2.2.1 c hc
  have hz := h.2.2.2.2.1
  have hwo : ∀ i w, w < 5 → me W i w = me V i w := fun i w hw => hW _ (by omega)
  have zW : W 429 = N := by rw [hW 429 (by omega)]; exact hz.2.1
  refine RW_op h hN hc (fun a h1 h2 h3 h4 h5 h6 => hM a h1 h6) (hM _ (by omega) (by omega)) (fun j hj => hW j (by omega)) (fun j h1 h2 h3 => hW j (by omega)) (fun i w hi hw _ => hwo i w hw) tim (fun q hq => ?_) (by omega) hx (fun q => by omega) hx1 (fun q => ?_) ?_ (fun i hi hio => ?_) (fun q => by omega)
  · by_cases y : pnd M u q c = 1
    · exact hp q hq y
    · refine Int.le_trans (sm_le fun i hi => ?_) (h.2.2.1 q hq)
      by_cases z : i = c
      · subst z
        unfold pnd at y ⊢
        rw [if_neg (fun r => y (if_pos r))]
        split <;> omega
      · unfold pnd
        rw [hM _ (by omega) (by omega)]
        exact Int.le_refl _
  · obtain ⟨j, j1, j2, j3⟩ := a.2.2.2 (hx2 q)
    exact ⟨j, j1, j2, j3⟩
  · refine ⟨⟨by rw [hK 0 (by omega)]; exact a.1.1, ?_⟩, ?_, ?_, fun q => ?_⟩
    · rw [vL_mc hc (by omega), vL_mc hc (by omega), vL_mc hc (by omega), vL_mc hc (by omega), vL_mc hc (by omega), vL_mc hc (by omega)]
      exact c1
    · rw [hM (u + 1) (by omega) (by omega)]
      exact c2
    · refine car3_app (m := m) (V := V) a.2.2.1 (fun w h1 h2 => hK w (by omega)) c3 (fun i hi => ?_) (by rw [(vL_0 zW).2.1]; omega)
      rw [vL_e zW hi (by omega), vL_e zW hi (by omega), vL_e zW hi (by omega), vL_e zW hi (by omega), vL_e zW hi (by omega), hwo i 0 (by omega), hwo i 1 (by omega), hwo i 2 (by omega), hwo i 3 (by omega), hwo i 4 (by omega)]
      exact ⟨rfl, rfl, rfl, rfl, fun _ => rfl⟩
    · rcases c4 q with r | r
      · exact ⟨N, by omega, by rw [(vL_0 zW).2.1, r], (vL_0 zW).2.2.1⟩
      · obtain ⟨j, j1, j2, j3⟩ := a.2.2.2 r
        exact ⟨j, by omega, by rw [vL_e zW j1 (by omega), hwo j 1 (by omega)]; exact j2, by rw [vL_e zW j1 (by omega), hwo j 2 (by omega)]; exact j3⟩
  · rw [hwo i 4 (by omega)]
    have en := (h.2.2.2.2.2 i hi).2.2.2
    rw [hio, Int.toNat_natCast] at en
    rw [hK 6 (by omega)]
    exact en
