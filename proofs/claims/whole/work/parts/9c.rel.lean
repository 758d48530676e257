/-! How the class's world at place u and the model's row V say the same. N: how many entries the log has. -/
def carR (m : mz_M) (u : Nat) (V : Nat → Int) (N c : Nat) : Prop :=
  (m (u + 24 + c) 0 = (c : Int) ∧ mc V c 0 = m (u + 24 + c) 1 ∧ mc V c 1 = m (u + 24 + c) 2 ∧ mc V c 2 = m (u + 24 + c) 3 ∧ mc V c 3 = m (u + 24 + c) 10 ∧ mc V c 4 = m (u + 24 + c) 9 ∧ mc V c 5 = m (u + 24 + c) 4) ∧
  ((0 ≤ m (u + 24 + c) 1 ∧ m (u + 24 + c) 1 ≤ 3) ∧ (0 ≤ m (u + 24 + c) 2 ∧ m (u + 24 + c) 2 < m (u + 1) 0) ∧ (0 ≤ m (u + 24 + c) 3 ∧ m (u + 24 + c) 3 ≤ 10700) ∧ (0 ≤ m (u + 24 + c) 10 ∧ m (u + 24 + c) 10 ≤ 100000 * N) ∧ ((0 ≤ m (u + 24 + c) 9 ∧ m (u + 24 + c) 9 ≤ 23000) ∧ (m (u + 24 + c) 1 ≤ 2 → m (u + 24 + c) 9 ≤ 8000) ∧ (m (u + 24 + c) 1 ≤ 1 → m (u + 24 + c) 9 = 0)) ∧ (0 ≤ m (u + 24 + c) 4 ∧ m (u + 24 + c) 4 ≤ 10079)) ∧
  ((m (u + 24 + c) 5 = mTc V N c ∧ 0 ≤ m (u + 24 + c) 6 ∧ m (u + 24 + c) 6 ≤ m (u + 24 + c) 5 ∧ m (u + 24 + c) 5 - m (u + 24 + c) 6 ≤ 3) ∧ (m (u + 24 + c) 1 ≤ 1 → m (u + 24 + c) 5 - m (u + 24 + c) 6 ≤ 2) ∧ m (u + 24 + c) 8 = sm (mUA V c) N ∧ (∀ i, tke (fun i => me V i 1 = 4 ∧ me V i 2 = c) N 0 (m (u + 24 + c) 5 - 1) = some i → me V i 0 = m (u + 24 + c) 7)) ∧
  (m (u + 24 + c) 1 ≠ 0 → ∃ j, j < N ∧ me V j 1 = 1 ∧ me V j 2 = c)
def entR (m : mz_M) (u : Nat) (V : Nat → Int) (i : Nat) : Prop :=
  (me V i 0 = m (u + 18) i ∧ me V i 1 = m (u + 19) i ∧ me V i 2 = m (u + 20) i ∧ me V i 3 = m (u + 21) i) ∧
  ((0 ≤ me V i 0 ∧ me V i 0 ≤ 10079) ∧ (1 ≤ me V i 1 ∧ me V i 1 ≤ 10) ∧ (0 ≤ me V i 2 ∧ me V i 2 < 16) ∧ (0 ≤ me V i 3 ∧ me V i 3 ≤ 100000) ∧ (me V i 1 = 4 → me V i 3 ≤ 8500) ∧ (me V i 1 = 1 → me V i 3 < m (u + 1) 0)) ∧
  (me V i 1 = 2 → ∃ j, j ≤ i ∧ me V j 1 = 1 ∧ me V j 2 = me V i 2) ∧
  me V i 4 = if me V i 1 = 4 ∧ mTc V i (me V i 2) < m (u + 24 + (me V i 2).toNat) 6 then 1 else 0
def twnR (m : mz_M) (u : Nat) (V : Nat → Int) : Prop := tW m (u + 1) ∧ tE m (u + 1) V ∧ ∀ j, j < 100 → m (u + 6) j = fwT (m (u + 5)) j ∧ V (103 + j) = m (u + 6) j
def timR (m : mz_M) (u : Nat) (V : Nat → Int) : Prop := (V 2 = m u 3 ∧ 0 ≤ m u 3 ∧ m u 3 ≤ 10079) ∧ (V 1 = if m u 4 = -1 then -3 else m u 4) ∧ ((m u 4 = -1 ∧ ∀ p, p < 10 → m (u + 4) p = 0) ∨ ((0 ≤ m u 4 ∧ m u 4 < m (u + 1) 0) ∧ 0 < m (u + 4) (m u 4).toNat))
def RW (m : mz_M) (u : Nat) (V : Nat → Int) (N : Nat) : Prop :=
  twnR m u V ∧ timR m u V ∧ (∀ p : Nat, p < 10 → sm (pnd m u p) 16 ≤ m (u + 4) p) ∧ (∀ c, c < 16 → carR m u V N c) ∧ ((m (u + 17) 0 = N ∧ V 429 = N ∧ N ≤ 372) ∧ ∀ i, i < N → entR m u V i)
theorem twnR_congr {m m' : mz_M} {u : Nat} {V : Nat → Int} (e : ∀ a, u ≤ a → a < u + 17 → m' a = m a) (h : twnR m u V) : twnR m' u V := by
  obtain ⟨⟨a1, a2, a3, a4, a5, a6, a7⟩, ⟨b1, b2, b3, b4⟩, c⟩ := h
  unfold twnR tW tE
  rw [e (u + 1) (by omega) (by omega), e (u + 1 + 3) (by omega) (by omega), e (u + 1 + 1) (by omega) (by omega), e (u + 1 + 2) (by omega) (by omega), e (u + 1 + 4) (by omega) (by omega), e (u + 6) (by omega) (by omega)]
  refine ⟨⟨a1, a2, a3, a4, a5, a6, fun z hz => ?_⟩, ⟨b1, b2, b3, fun z hz => ?_⟩, c⟩
  · rw [e (u + 1 + 7 + 2 * z) (by omega) (by omega), e (u + 1 + 8 + 2 * z) (by omega) (by omega)]; exact a7 z hz
  · rw [e (u + 1 + 7 + 2 * z) (by omega) (by omega), e (u + 1 + 8 + 2 * z) (by omega) (by omega)]; exact b4 z hz
theorem carR_congr {m m' : mz_M} {u N c : Nat} {V : Nat → Int} (e1 : m' (u + 1) 0 = m (u + 1) 0) (e : m' (u + 24 + c) = m (u + 24 + c)) (h : carR m u V N c) : carR m' u V N c := by
  unfold carR at h ⊢
  rw [e, e1]
  exact h
theorem entR_congr {m m' : mz_M} {u i : Nat} {V : Nat → Int} (e1 : m' (u + 1) 0 = m (u + 1) 0) (e : ∀ a, u + 18 ≤ a → a < u + 22 → m' a i = m a i) (e6 : ∀ c, c < 16 → m' (u + 24 + c) 6 = m (u + 24 + c) 6) (h : entR m u V i) : entR m' u V i := by
  have hw := h.2.1.2.2.1
  unfold entR at h ⊢
  rw [e (u + 18) (by omega) (by omega), e (u + 19) (by omega) (by omega), e (u + 20) (by omega) (by omega), e (u + 21) (by omega) (by omega), e1, e6 _ (by omega)]
  exact h
theorem RW_congr {m m' : mz_M} {u N : Nat} {V V' : Nat → Int} (e : ∀ a, u ≤ a → a < u + 40 → a ≠ u + 22 → a ≠ u + 23 → m' a = m a) (eV : ∀ j, j < 2430 → V' j = V j) (h : RW m u V N) : RW m' u V' N := by
  obtain ⟨h1, h2, h3, h4, ⟨h5, h6, h7⟩, h8⟩ := h
  have em : ∀ i w, i < 372 → w < 5 → me V' i w = me V i w := fun i w hi hw => eV _ (by omega)
  have ec : ∀ c w, c < 16 → w < 6 → mc V' c w = mc V c w := fun c w hc hw => eV _ (by omega)
  have eT : ∀ n c, n ≤ 372 → mTc V' n c = mTc V n c := fun n c hn => sm_congr fun i hi => by rw [em i 1 (by omega) (by omega), em i 2 (by omega) (by omega)]
  have eU : ∀ c, sm (mUA V' c) N = sm (mUA V c) N := fun c => sm_congr fun i hi => by unfold mUA; rw [em i 1 (by omega) (by omega), em i 2 (by omega) (by omega), em i 3 (by omega) (by omega), em i 4 (by omega) (by omega)]
  have etk : ∀ (c : Int) (r j : Nat) (q : Int), j + r ≤ 372 → tke (fun i => me V' i 1 = 4 ∧ me V' i 2 = c) r j q = tke (fun i => me V i 1 = 4 ∧ me V i 2 = c) r j q := by
    intro c r
    induction r with
    | zero => intros; rfl
    | succ r ih =>
      intro j q hj
      unfold tke
      rw [em j 1 (by omega) (by omega), em j 2 (by omega) (by omega), ih (j + 1) (q - 1) (by omega), ih (j + 1) q (by omega)]
  refine ⟨?_, ?_, fun p hp => ?_, fun c hc => ?_, ⟨?_, ?_, h7⟩, fun i hi => ?_⟩
  · have t := twnR_congr (fun a q1 q2 => e a q1 (by omega) (by omega) (by omega)) h1
    obtain ⟨t1, ⟨b1, b2, b3, b4⟩, t3⟩ := t
    refine ⟨t1, ⟨?_, fun p hp => ?_, fun j hj => ?_, fun z hz => ⟨?_, fun h hh => ?_⟩⟩, fun j hj => ?_⟩
    · rw [eV _ (by omega)]; exact b1
    · rw [eV _ (by omega), eV _ (by omega), eV _ (by omega)]; exact b2 p hp
    · rw [eV _ (by omega)]; exact b3 j hj
    · rw [eV _ (by omega)]; exact (b4 z hz).1
    · rw [eV _ (by omega)]; exact (b4 z hz).2 h hh
    · rw [eV _ (by omega)]; exact t3 j hj
  · unfold timR at h2 ⊢
    rw [eV _ (by omega), eV _ (by omega), e u (by omega) (by omega) (by omega) (by omega), e (u + 4) (by omega) (by omega) (by omega) (by omega), e (u + 1) (by omega) (by omega) (by omega) (by omega)]
    exact h2
  · have : sm (pnd m' u p) 16 = sm (pnd m u p) 16 := sm_congr fun i hi => by unfold pnd; rw [e _ (by omega) (by omega) (by omega) (by omega)]
    rw [this, e (u + 4) (by omega) (by omega) (by omega) (by omega)]
    exact h3 p hp
  · have hcc := carR_congr (m' := m') (by rw [e (u + 1) (by omega) (by omega) (by omega) (by omega)]) (e _ (by omega) (by omega) (by omega) (by omega)) (h4 c hc)
    unfold carR at hcc ⊢
    rw [ec c 0 hc (by omega), ec c 1 hc (by omega), ec c 2 hc (by omega), ec c 3 hc (by omega), ec c 4 hc (by omega), ec c 5 hc (by omega), eT N c h7, eU, etk c N 0 _ (by omega)]
    refine ⟨hcc.1, hcc.2.1, ⟨hcc.2.2.1.1, hcc.2.2.1.2.1, hcc.2.2.1.2.2.1, fun i hi => ?_⟩, fun q => ?_⟩
    · have := tke_lt _ _ _ _ hi
      rw [em i 0 (by omega) (by omega)]
      exact hcc.2.2.1.2.2.2 i hi
    · obtain ⟨j, j1, j2, j3⟩ := hcc.2.2.2 q
      exact ⟨j, j1, by rw [em j 1 (by omega) (by omega)]; exact j2, by rw [em j 2 (by omega) (by omega)]; exact j3⟩
  · rw [e (u + 17) (by omega) (by omega) (by omega) (by omega)]; exact h5
  · rw [eV _ (by omega)]; exact h6
  · have hee := entR_congr (m' := m') (by rw [e (u + 1) (by omega) (by omega) (by omega) (by omega)]) (fun a q1 q2 => by rw [e a (by omega) (by omega) (by omega) (by omega)]) (fun c hc => by rw [e _ (by omega) (by omega) (by omega) (by omega)]) (h8 i hi)
    unfold entR at hee ⊢
    rw [em i 0 (by omega) (by omega), em i 1 (by omega) (by omega), em i 2 (by omega) (by omega), em i 3 (by omega) (by omega), em i 4 (by omega) (by omega), eT i _ (by omega)]
    refine ⟨hee.1, hee.2.1, fun q => ?_, hee.2.2.2⟩
    obtain ⟨j, j1, j2, j3⟩ := hee.2.2.1 q
    exact ⟨j, j1, by rw [em j 1 (by omega) (by omega)]; exact j2, by rw [em j 2 (by omega) (by omega)]; exact j3⟩
/-! What follows from it. -/
section RF
variable {m : mz_M} {u N : Nat} {V : Nat → Int}
theorem RW_sz (h : RW m u V N) : (V 0 = m (u + 1) 0 ∧ 1 ≤ m (u + 1) 0 ∧ m (u + 1) 0 ≤ 10) := ⟨h.1.2.1.1, h.1.1.1⟩
theorem RW_mVO (h : RW m u V N) : mVO V N := by
  obtain ⟨h1, h2, h3, h4, ⟨h5, h6, h7⟩, h8⟩ := h
  have hs := h1.1.1
  refine ⟨⟨h6, by omega⟩, by have := h2.1; omega, fun p hp => ?_, fun c hc => ?_⟩
  · have a := h1.2.1.2.1 p hp
    have b := h1.1.2.2.2.2.1 p hp
    rw [a.1]
    exact ⟨b.1.1, by have : m (u + 1 + 1) p ≤ 3 := b.1.2; omega⟩
  · have a := h4 c hc
    have b := a.1
    have d := a.2.1
    unfold mCo
    omega
theorem RW_mAm (h : RW m u V N) : mAm V N ∧ mTm V N := by
  obtain ⟨h1, h2, h3, h4, ⟨h5, h6, h7⟩, h8⟩ := h
  exact ⟨⟨h6, by omega, fun i hi => (h8 i hi).2.1.2.2.2.1⟩, fun i hi => by have := (h8 i hi).2.1.1; omega⟩
theorem RW_mMy (h : RW m u V N) : ∀ c, c < 16 → mMy V c := by
  intro c hc
  have a := h.2.2.2.1 c hc
  have hN := h.2.2.2.2.1.2.2
  have b := a.1
  have d := a.2.1
  unfold mMy
  omega
theorem RW_mSi (h : RW m u V N) : mSi V := by
  intro c hc
  have a := h.2.2.2.1 c hc
  have b := a.1
  have d := a.2.1
  omega
theorem RW_pl (h : RW m u V N) : plN' V := by have := RW_sz h; unfold plN'; omega
theorem RW_mRo (h : RW m u V N) : mRo V := by
  intro z hz k hk
  have a := (h.1.2.1.2.2.2 z hz).2 k hk
  have b := (h.1.1.2.2.2.2.2.2 z hz).2 k hk
  show 0 ≤ V (233 + 24 * z + k) ∧ V (233 + 24 * z + k) ≤ 999
  rw [a]
  exact b
theorem RW_rows (h : RW m u V N) : (∀ p, p < 10 → (0 ≤ V (213 + p) ∧ V (213 + p) ≤ 1000) ∧ (0 ≤ V (223 + p) ∧ V (223 + p) ≤ 1000)) ∧ ∀ z, z < 4 → 0 ≤ V (329 + z) ∧ V (329 + z) < 1000 := by
  refine ⟨fun p hp => ?_, fun z hz => ?_⟩
  · have a := h.1.2.1.2.1 p hp
    have b := h.1.1.2.2.2.2.1 p hp
    have d := h.1.1.2.2.2.1 p hp
    rw [a.2.1, a.2.2]
    omega
  · have a := (h.1.2.1.2.2.2 z hz).1
    have b := (h.1.1.2.2.2.2.2.2 z hz).1
    rw [a]
    omega
theorem RW_cnO (h : RW m u V N) : cnO m u := fun c hc => (h.2.2.2.1 c hc).1.1
theorem RW_caO (h : RW m u V N) : ∀ c, c < 16 → caO m (u + 24 + c) ∧ m (u + 24 + c) 6 ≤ m (u + 24 + c) 5 := by
  intro c hc
  have a := h.2.2.2.1 c hc
  have hN := h.2.2.2.2.1.2.2
  have hs := RW_sz h
  have d := a.2.1
  have e := a.2.2.1.1
  have f := mTc_ok V N c
  unfold caO
  omega
theorem RW_road (h : RW m u V N) : fwO (m (u + 5)) := fun j hj => by
  have := h.1.1.2.2.2.2.2.1 j hj
  show 0 ≤ m (u + 1 + 4) j ∧ m (u + 1 + 4) j ≤ 1000000
  omega
theorem RW_way (h : RW m u V N) : fwO (m (u + 6)) := fun j hj => by
  rw [(h.1.2.2 j hj).1]
  have hD : fwO (dgR (m (u + 5)) 10) := by
    intro j hj
    have := RW_road h j hj
    unfold dgR
    split <;> omega
  exact fwN_ok hD 1000 (Nat.le_refl _) j hj
theorem RW_mW (h : RW m u V N) : fwO (mW V) := fun j hj => by
  show 0 ≤ V (103 + j) ∧ _
  have := RW_way h j hj
  rw [show mW V j = V (103 + j) from rfl, (h.1.2.2 j hj).2]
  exact this
theorem RW_wyO (h : RW m u V N) : wyO V := fun j hj => by
  have a := RW_road h j hj
  have b := RW_mW h j hj
  refine ⟨?_, b⟩
  rw [h.1.2.1.2.2.1 j hj]
  exact a
theorem RW_lgO (h : RW m u V N) : lgO m (u + 17) N := by
  obtain ⟨h1, h2, h3, h4, ⟨h5, h6, h7⟩, h8⟩ := h
  refine ⟨h5, by omega, fun i hi => ?_⟩
  have a := h8 i hi
  have b := a.1
  have d := a.2.1
  show (0 ≤ m (u + 18) i ∧ m (u + 18) i ≤ 20000) ∧ (0 ≤ m (u + 20) i ∧ m (u + 20) i < 16) ∧ 0 ≤ m (u + 21) i ∧ m (u + 21) i ≤ 100000
  omega
theorem RW_logO (h : RW m u V N) : logO m (u + 17) := by
  have hl := RW_lgO h
  have hN := h.2.2.2.2.1.2.2
  refine ⟨by rw [hl.1]; omega, by rw [hl.1]; omega, fun i hi => ?_⟩
  rw [hl.1] at hi
  exact (hl.2.2 i (by omega)).2.2
end RF
