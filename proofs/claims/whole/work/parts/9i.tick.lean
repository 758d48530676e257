/-! A ticket written, a ticket paid. -/
theorem tke_last {P : Nat → Prop} [DecidablePred P] : ∀ (r j : Nat) (q : Int), q = sm (fun i => if P (j + i) then 1 else 0) r → P (j + r) → tke P (r + 1) j q = some (j + r) := by
  intro r
  induction r with
  | zero =>
    intro j q h hp
    have hq : q = 0 := h
    have hp : P j := hp
    rw [tke, if_pos hp, if_pos hq]
    rfl
  | succ r ih =>
    intro j q h hp
    have hs : sm (fun i => if P (j + i) then 1 else 0) (r + 1) = (if P j then 1 else 0) + sm (fun i => if P (j + 1 + i) then 1 else 0) r := by
      have := sm_shift (fun i => if P (j + i) then 1 else 0) r
      have e : sm (fun i => if P (j + (i + 1)) then 1 else 0) r = sm (fun i => if P (j + 1 + i) then 1 else 0) r := sm_congr fun i _ => by rw [show j + (i + 1) = j + 1 + i by omega]
      rw [e] at this
      simp only [Nat.add_zero] at this
      rw [sm, this]
      omega
    have h0 : 0 ≤ sm (fun i => if P (j + 1 + i) then 1 else 0) r := sm_0 fun i _ => by split <;> omega
    have hp' : P (j + 1 + r) := by rw [show j + 1 + r = j + (r + 1) by omega]; exact hp
    rw [hs] at h
    rw [tke]
    by_cases w : P j
    · rw [if_pos w] at h ⊢
      by_cases hq : q = 0
      · omega
      · rw [if_neg hq, ih (j + 1) (q - 1) (by omega) hp', show j + 1 + r = j + (r + 1) by omega]
    · rw [if_neg w] at h ⊢
      rw [ih (j + 1) q (by omega) hp', show j + 1 + r = j + (r + 1) by omega]
theorem sm_rank {P : Nat → Prop} [DecidablePred P] {i k : Nat} (hi : P i) (hk : P k) (h : sm (fun i => if P i then 1 else 0) i = sm (fun i => if P i then 1 else 0) k) : i = k := by
  have g : ∀ a b : Nat, P a → a < b → sm (fun i => if P i then (1 : Int) else 0) a < sm (fun i => if P i then 1 else 0) b := by
    intro a b ha hab
    have := sm_mono (f := fun i => if P i then 1 else 0) (n := a + 1) (n' := b) (by omega) (fun i _ => by split <;> omega)
    rw [sm, if_pos ha] at this
    omega
  rcases Nat.lt_trichotomy i k with q | q | q
  · have := g i k hi q; omega
  · exact q
  · have := g k i hk q; omega
/-- the ticket that is paid next -/
theorem q_old {m : mz_M} {u N c : Nat} {V : Nat → Int} (h : RW m u V N) (hc : c < 16) : (m (u + 24 + c) 5 = m (u + 24 + c) 6 ∧ fst1 (fun i => me V i 1 = 4 ∧ me V i 2 = c ∧ me V i 4 = 0) N 0 = none) ∨ (m (u + 24 + c) 6 < m (u + 24 + c) 5 ∧ ∃ k, k < N ∧ fst1 (fun i => me V i 1 = 4 ∧ me V i 2 = c ∧ me V i 4 = 0) N 0 = some k ∧ tke (fun i => me V i 1 = 4 ∧ me V i 2 = c) N 0 (m (u + 24 + c) 6) = some k ∧ (me V k 1 = 4 ∧ me V k 2 = c ∧ me V k 4 = 0) ∧ mTc V k c = m (u + 24 + c) 6) := by
  have a := (h.2.2.2.1 c hc).2.2.1
  have hT : ∀ n, sm (fun i => if me V (0 + i) 1 = 4 ∧ me V (0 + i) 2 = c then 1 else 0) n = mTc V n c := fun n => sm_congr fun i hi => by rw [Nat.zero_add]
  have en : ∀ i, i < N → me V i 1 = 4 → me V i 2 = c → me V i 4 = if mTc V i c < m (u + 24 + c) 6 then 1 else 0 := fun i hi h1 h2 => by
    have := (h.2.2.2.2.2 i hi).2.2.2
    rw [h2, Int.toNat_natCast] at this
    rw [this]
    by_cases q : mTc V i c < m (u + 24 + c) 6
    · rw [if_pos ⟨h1, q⟩, if_pos q]
    · rw [if_neg (fun y => q y.2), if_neg q]
  have up := q_up h hc
  cases hf : fst1 (fun i => me V i 1 = 4 ∧ me V i 2 = c ∧ me V i 4 = 0) N 0 with
  | none =>
    refine Or.inl ⟨?_, rfl⟩
    have : mUp V N c = sm (fun _ => 0) N := sm_congr fun i hi => if_neg (fst1_none hf i (by omega) (by omega))
    rw [sm_const] at this
    omega
  | some k =>
    obtain ⟨⟨k1, k2, k3⟩, _, k4, k5⟩ := fst1_some hf
    have e3 := en k (by omega) k1 k2
    have r1 : ¬ mTc V k c < m (u + 24 + c) 6 := fun q => by rw [if_pos q] at e3; omega
    have m1 : mTc V k c + 1 ≤ mTc V N c := by
      have := sm_mono (f := fun i => if me V i 1 = 4 ∧ me V i 2 = c then 1 else 0) (n := k + 1) (n' := N) (by omega) (fun i _ => by split <;> omega)
      rw [sm, if_pos ⟨k1, k2⟩] at this
      exact this
    have lt : m (u + 24 + c) 6 < m (u + 24 + c) 5 := by rw [a.1.1]; omega
    obtain ⟨i, hi⟩ := tke_ex (P := fun i => me V i 1 = 4 ∧ me V i 2 = c) N 0 (m (u + 24 + c) 6) a.1.2.1 (by rw [hT, ← a.1.1]; exact lt)
    have i1 := tke_lt _ _ _ _ hi
    have i2 := (tke_rank _ _ _ _ hi).2
    have i3 : mTc V i c = m (u + 24 + c) 6 := by rw [← i2, Nat.sub_zero]; exact (hT i).symm
    have i4 := en i (by omega) i1.2.2.1 i1.2.2.2
    rw [if_neg (by omega)] at i4
    have ki : ¬ i < k := fun q => k5 i (by omega) q ⟨i1.2.2.1, i1.2.2.2, i4⟩
    have ki2 : k = i := by
      rcases Nat.lt_or_ge k i with q | q
      · have := sm_mono (f := fun i => if me V i 1 = 4 ∧ me V i 2 = c then 1 else 0) (n := k + 1) (n' := i) (by omega) (fun i _ => by split <;> omega)
        rw [sm, if_pos ⟨k1, k2⟩] at this
        have e : mTc V k c + 1 ≤ mTc V i c := this
        omega
      · omega
    subst ki2
    exact Or.inr ⟨lt, k, by omega, rfl, hi, ⟨k1, k2, k3⟩, i3⟩
/-- a ticket is written -/
theorem RW_op2 {m M : mz_M} {u N c : Nat} {V W : Nat → Int} {x : Int} (h : RW m u V N) (hN : N + 1 ≤ 372) (hc : c < 16)
    (hM : ∀ a, a ≠ u + 24 + c → M a = m a) (hK : M (u + 24 + c) 0 = m (u + 24 + c) 0 ∧ M (u + 24 + c) 5 = m (u + 24 + c) 5 + 1 ∧ M (u + 24 + c) 6 = m (u + 24 + c) 6 ∧ M (u + 24 + c) 7 = m u 3 ∧ M (u + 24 + c) 8 = m (u + 24 + c) 8 + x)
    (hW : ∀ j, (j < 333 + 6 * c) ∨ 333 + 6 * c + 6 ≤ j → W j = V j)
    (hx : 0 ≤ x ∧ x ≤ 8500) (h1 : M (u + 24 + c) 1 = 1 ∨ M (u + 24 + c) 1 = 2) (hs : m (u + 24 + c) 1 = 1)
    (c1 : mc W c 0 = M (u + 24 + c) 1 ∧ mc W c 1 = M (u + 24 + c) 2 ∧ mc W c 2 = M (u + 24 + c) 3 ∧ mc W c 3 = M (u + 24 + c) 10 ∧ mc W c 4 = M (u + 24 + c) 9 ∧ mc W c 5 = M (u + 24 + c) 4)
    (c2 : (0 ≤ M (u + 24 + c) 1 ∧ M (u + 24 + c) 1 ≤ 3) ∧ (0 ≤ M (u + 24 + c) 2 ∧ M (u + 24 + c) 2 < m (u + 1) 0) ∧ (0 ≤ M (u + 24 + c) 3 ∧ M (u + 24 + c) 3 ≤ 10700) ∧ (0 ≤ M (u + 24 + c) 10 ∧ M (u + 24 + c) 10 ≤ 100000 * ((N + 1 : Nat) : Int)) ∧ ((0 ≤ M (u + 24 + c) 9 ∧ M (u + 24 + c) 9 ≤ 23000) ∧ (M (u + 24 + c) 1 ≤ 2 → M (u + 24 + c) 9 ≤ 8000) ∧ (M (u + 24 + c) 1 ≤ 1 → M (u + 24 + c) 9 = 0)) ∧ (0 ≤ M (u + 24 + c) 4 ∧ M (u + 24 + c) 4 ≤ 10079))
    (c3 : M (u + 24 + c) 1 ≤ 1 → m (u + 24 + c) 5 + 1 - m (u + 24 + c) 6 ≤ 2) : RW (lgA (u + 17) (M u 3) 4 c x M) u (vL W 4 c x) (N + 1) := by
  have a := h.2.2.2.1 c hc
  have a3 := a.2.2.1
  have hz := h.2.2.2.2.1
  have tim := h.2.1
  have hwo : ∀ i w, w < 5 → me W i w = me V i w := fun i w hw => hW _ (by omega)
  have zW : W 429 = N := by rw [hW 429 (by omega)]; exact hz.2.1
  have vn := vL_0 (V := W) (k := 4) (c := c) (x := x) zW
  have ve : ∀ i w, i < N → w < 5 → me (vL W 4 c x) i w = me V i w := fun i w h1 h2 => by rw [vL_e zW h1 h2, hwo i w h2]
  have e3 : M u 3 = m u 3 := by rw [hM u (by omega)]
  refine RW_op h hN hc (fun a h1 h2 h3 h4 h5 h6 => hM a h6) (hM _ (by omega)) (fun j hj => hW j (by omega)) (fun j h1 h2 h3 => hW j (by omega)) (fun i w hi hw _ => hwo i w hw) ?_ (fun q hq => ?_) (by omega) (by omega) (fun q => hx.2) (fun q => by omega) (fun q => by omega) ?_ (fun i hi hio => ?_) (fun q => ?_)
  · unfold timR at tim ⊢
    rw [hM u (by omega), hM (u + 4) (by omega), hM (u + 1) (by omega), hW 2 (by omega), hW 1 (by omega)]
    exact tim
  · refine Int.le_trans (sm_le fun i hi => ?_) (h.2.2.1 q hq)
    by_cases z : i = c
    · subst z
      unfold pnd
      rw [if_neg (by omega)]
      split <;> omega
    · unfold pnd
      rw [hM _ (by omega)]
      exact Int.le_refl _
  · have eT : mTc (vL W 4 c x) (N + 1) c = mTc V N c + 1 := by
      show sm _ N + (if me (vL W 4 c x) N 1 = 4 ∧ me (vL W 4 c x) N 2 = c then 1 else 0) = _
      rw [if_pos ⟨vn.2.1, vn.2.2.1⟩]
      congr 1
      exact sm_congr fun i hi => by rw [ve i 1 hi (by omega), ve i 2 hi (by omega)]
    have eU : sm (mUA (vL W 4 c x) c) (N + 1) = sm (mUA V c) N + x := by
      show sm (mUA (vL W 4 c x) c) N + mUA (vL W 4 c x) c N = _
      rw [show mUA (vL W 4 c x) c N = x by unfold mUA; rw [if_pos ⟨vn.2.1, vn.2.2.1, vn.2.2.2.2⟩]; exact vn.2.2.2.1]
      congr 1
      refine sm_congr fun i hi => ?_
      unfold mUA
      rw [ve i 1 hi (by omega), ve i 2 hi (by omega), ve i 3 hi (by omega), ve i 4 hi (by omega)]
    have eK : tke (fun i => me (vL W 4 c x) i 1 = 4 ∧ me (vL W 4 c x) i 2 = c) (N + 1) 0 (mTc V N c) = some (0 + N) := by
      refine tke_last (P := fun i => me (vL W 4 c x) i 1 = 4 ∧ me (vL W 4 c x) i 2 = c) N 0 _ (sm_congr fun i hi => ?_) (by rw [Nat.zero_add]; exact ⟨vn.2.1, vn.2.2.1⟩)
      rw [Nat.zero_add, ve i 1 hi (by omega), ve i 2 hi (by omega)]
    refine ⟨⟨by rw [hK.1]; exact a.1.1, ?_⟩, ?_, ⟨⟨?_, ?_, ?_, ?_⟩, ?_, ?_, fun i hi => ?_⟩, fun q => ?_⟩
    · rw [vL_mc hc (by omega), vL_mc hc (by omega), vL_mc hc (by omega), vL_mc hc (by omega), vL_mc hc (by omega), vL_mc hc (by omega)]
      exact c1
    · rw [hM (u + 1) (by omega)]
      exact c2
    · rw [hK.2.1, eT, a3.1.1]
    · rw [hK.2.2.1]; exact a3.1.2.1
    · rw [hK.2.1, hK.2.2.1]; omega
    · rw [hK.2.1, hK.2.2.1]; have := a3.2.1 (by omega); omega
    · rw [hK.2.1, hK.2.2.1]; exact c3
    · rw [hK.2.2.2.2, eU, a3.2.2.1]
    · rw [hK.2.1, a3.1.1, show mTc V N c + 1 - 1 = mTc V N c by omega, eK] at hi
      cases hi
      rw [Nat.zero_add, vn.1, hK.2.2.2.1, hW 2 (by omega)]
      exact tim.1.1
    · obtain ⟨j, j1, j2, j3⟩ := a.2.2.2 (by omega)
      exact ⟨j, by omega, by rw [ve j 1 j1 (by omega)]; exact j2, by rw [ve j 2 j1 (by omega)]; exact j3⟩
  · rw [hwo i 4 (by omega)]
    have en := (h.2.2.2.2.2 i hi).2.2.2
    rw [hio, Int.toNat_natCast] at en
    rw [hK.2.2.1]
    exact en
  · rw [hK.2.2.1, ← a3.1.1]; omega
/-- a ticket is paid -/
theorem RW_op3 {m M : mz_M} {u N c k : Nat} {V W : Nat → Int} {x : Int} (h : RW m u V N) (hN : N + 1 ≤ 372) (hc : c < 16)
    (hM : ∀ a, a ≠ u + 24 + c → M a = m a) (hK : ∀ w, w ≠ 6 → w ≠ 8 → w ≠ 10 → M (u + 24 + c) w = m (u + 24 + c) w) (hK2 : M (u + 24 + c) 6 = m (u + 24 + c) 6 + 1 ∧ M (u + 24 + c) 8 = m (u + 24 + c) 8 - x ∧ M (u + 24 + c) 10 = m (u + 24 + c) 10 - x)
    (hk : k < N) (hP : me V k 1 = 4 ∧ me V k 2 = c ∧ me V k 4 = 0) (hT : mTc V k c = m (u + 24 + c) 6) (hx : x = me V k 3) (hle : x ≤ m (u + 24 + c) 10) (hlt : m (u + 24 + c) 6 < m (u + 24 + c) 5)
    (hW : W = vU (vU V (333 + 6 * c + 3) (mc V c 3 - x)) (430 + 5 * k + 4) 1) : RW (lgA (u + 17) (M u 3) 7 c x M) u (vL W 7 c x) (N + 1) := by
  have a := h.2.2.2.1 c hc
  have a3 := a.2.2.1
  have hz := h.2.2.2.2.1
  have tim := h.2.1
  have hxr := (h.2.2.2.2.2 k hk).2.1
  have hx0 : 0 ≤ x ∧ x ≤ 100000 := by rw [hx]; exact hxr.2.2.2.1
  have hwo : ∀ i w, w < 5 → me W i w = if i = k ∧ w = 4 then 1 else me V i w := fun i w hw => by
    rw [hW]
    by_cases q : i = k ∧ w = 4
    · rw [if_pos q, q.1, q.2]; exact vU_e rfl
    · rw [if_neg q]; unfold me; rw [vU_n (by omega), vU_n (by omega)]
  have hlo : ∀ j, j < 430 → j ≠ 333 + 6 * c + 3 → W j = V j := fun j hj h3 => by rw [hW, vU_n (by omega), vU_n h3]
  have zW : W 429 = N := by rw [hlo 429 (by omega) (by omega)]; exact hz.2.1
  have vn := vL_0 (V := W) (k := 7) (c := c) (x := x) zW
  have ve : ∀ i w, i < N → w < 5 → me (vL W 7 c x) i w = if i = k ∧ w = 4 then 1 else me V i w := fun i w h1 h2 => by rw [vL_e zW h1 h2, hwo i w h2]
  have veo : ∀ i w, i < N → w < 4 → me (vL W 7 c x) i w = me V i w := fun i w h1 h2 => by rw [ve i w h1 (by omega), if_neg (by omega)]
  refine RW_op h hN hc (fun a h1 h2 h3 h4 h5 h6 => hM a h6) (hM _ (by omega)) (fun j hj => hlo j (by omega) (by omega)) (fun j h1 h2 h3 => hlo j (by omega) (by omega)) (fun i w hi hw hio => ?_) ?_ (fun q hq => ?_) (by omega) hx0 (fun q => by omega) (fun q => by omega) (fun q => by omega) ?_ (fun i hi hio => ?_) (fun q => by omega)
  · rw [hwo i w hw, if_neg]
    rintro ⟨rfl, rfl⟩
    rcases hio with q | q
    · exact q rfl
    · exact q hP.2.1
  · unfold timR at tim ⊢
    rw [hM u (by omega), hM (u + 4) (by omega), hM (u + 1) (by omega), hlo 2 (by omega) (by omega), hlo 1 (by omega) (by omega)]
    exact tim
  · refine Int.le_trans (sm_le fun i hi => ?_) (h.2.2.1 q hq)
    unfold pnd
    by_cases z : i = c
    · subst z
      rw [hK 1 (by omega) (by omega) (by omega), hK 2 (by omega) (by omega) (by omega)]
      exact Int.le_refl _
    · rw [hM _ (by omega)]
      exact Int.le_refl _
  · have eT : mTc (vL W 7 c x) (N + 1) c = mTc V N c := by
      show sm _ N + (if me (vL W 7 c x) N 1 = 4 ∧ me (vL W 7 c x) N 2 = c then 1 else 0) = _
      rw [if_neg (by rw [vn.2.1]; omega), Int.add_zero]
      exact sm_congr fun i hi => by rw [veo i 1 hi (by omega), veo i 2 hi (by omega)]
    have eU : sm (mUA (vL W 7 c x) c) (N + 1) = sm (mUA V c) N - x := by
      show sm (mUA (vL W 7 c x) c) N + mUA (vL W 7 c x) c N = _
      rw [show mUA (vL W 7 c x) c N = 0 from if_neg (by rw [vn.2.1]; omega), Int.add_zero]
      rw [sm_one (f := mUA V c) (g := mUA (vL W 7 c x) c) (n := N) (h0 := k) (c := -x) (fun i hi => ?_), if_pos hk]
      · omega
      · unfold mUA
        rw [veo i 1 hi (by omega), veo i 2 hi (by omega), veo i 3 hi (by omega), ve i 4 hi (by omega)]
        by_cases y : i = k
        · subst y
          rw [if_pos (show i = i ∧ 4 = 4 from ⟨rfl, rfl⟩), if_neg (by omega), if_pos hP, if_pos rfl, hx]
          omega
        · rw [if_neg (show ¬ (i = k ∧ 4 = 4) from fun q => y q.1), if_neg y, Int.add_zero]
    have eK : ∀ q : Int, tke (fun i => me (vL W 7 c x) i 1 = 4 ∧ me (vL W 7 c x) i 2 = c) (N + 1) 0 q = tke (fun i => me V i 1 = 4 ∧ me V i 2 = c) N 0 q := fun q => by
      refine tke_app (P := fun i => me V i 1 = 4 ∧ me V i 2 = c) N 0 q (fun i _ hi => ?_) (by rw [Nat.zero_add, vn.2.1]; omega)
      rw [veo i 1 (by omega) (by omega), veo i 2 (by omega) (by omega)]
    refine ⟨⟨by rw [hK 0 (by omega) (by omega) (by omega)]; exact a.1.1, ?_⟩, ?_, ⟨⟨?_, ?_, ?_, ?_⟩, ?_, ?_, fun i hi => ?_⟩, fun q => ?_⟩
    · rw [vL_mc hc (by omega), vL_mc hc (by omega), vL_mc hc (by omega), vL_mc hc (by omega), vL_mc hc (by omega), vL_mc hc (by omega), hK 1 (by omega) (by omega) (by omega), hK 2 (by omega) (by omega) (by omega), hK 3 (by omega) (by omega) (by omega), hK 9 (by omega) (by omega) (by omega), hK 4 (by omega) (by omega) (by omega), hK2.2.2]
      have w : ∀ w, w < 6 → w ≠ 3 → mc W c w = mc V c w := fun w h1 h2 => hlo _ (by omega) (by omega)
      have w3 : mc W c 3 = mc V c 3 - x := by rw [hW]; unfold mc; rw [vU_n (by omega), vU_e rfl]
      rw [w 0 (by omega) (by omega), w 1 (by omega) (by omega), w 2 (by omega) (by omega), w 4 (by omega) (by omega), w 5 (by omega) (by omega), w3, a.1.2.2.2.2.1]
      exact ⟨a.1.2.1, a.1.2.2.1, a.1.2.2.2.1, rfl, a.1.2.2.2.2.2⟩
    · rw [hM (u + 1) (by omega), hK 1 (by omega) (by omega) (by omega), hK 2 (by omega) (by omega) (by omega), hK 3 (by omega) (by omega) (by omega), hK 9 (by omega) (by omega) (by omega), hK 4 (by omega) (by omega) (by omega), hK2.2.2]
      have := a.2.1
      omega
    · rw [hK 5 (by omega) (by omega) (by omega), eT]; exact a3.1.1
    · rw [hK2.1]; omega
    · rw [hK 5 (by omega) (by omega) (by omega), hK2.1]; omega
    · rw [hK 5 (by omega) (by omega) (by omega), hK2.1]; omega
    · rw [hK 5 (by omega) (by omega) (by omega), hK 1 (by omega) (by omega) (by omega), hK2.1]; have := a3.2.1; omega
    · rw [hK2.2.1, eU, a3.2.2.1]
    · rw [hK 5 (by omega) (by omega) (by omega), eK] at hi
      have := tke_lt _ _ _ _ hi
      rw [veo i 0 (by omega) (by omega), hK 7 (by omega) (by omega) (by omega)]
      exact a3.2.2.2 i hi
    · rw [hK 1 (by omega) (by omega) (by omega)] at q
      obtain ⟨j, j1, j2, j3⟩ := a.2.2.2 q
      exact ⟨j, by omega, by rw [veo j 1 j1 (by omega)]; exact j2, by rw [veo j 2 j1 (by omega)]; exact j3⟩
  · rw [hwo i 4 (by omega), hK2.1]
    have en := (h.2.2.2.2.2 i hi).2.2.2
    rw [hio, Int.toNat_natCast] at en
    by_cases y : i = k
    · subst y
      rw [if_pos ⟨rfl, rfl⟩, if_pos ⟨hP.1, by omega⟩]
    · rw [if_neg (fun q => y q.1), en]
      by_cases z : me V i 1 = 4
      · have ne : mTc V i c ≠ m (u + 24 + c) 6 := fun q => y (sm_rank (P := fun i => me V i 1 = 4 ∧ me V i 2 = c) ⟨z, hio⟩ ⟨hP.1, hP.2.1⟩ (show mTc V i c = mTc V k c by rw [q, hT]))
        by_cases w : mTc V i c < m (u + 24 + c) 6
        · rw [if_pos ⟨z, w⟩, if_pos ⟨z, by omega⟩]
        · rw [if_neg (fun q => w q.2), if_neg (fun q => by have := q.2; omega)]
      · rw [if_neg (fun q => z q.1), if_neg (fun q => z q.1)]
