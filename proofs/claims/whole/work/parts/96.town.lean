/-! A town as the class has it at place w, and as the model has it in a row. -/
def tW (m : mz_M) (w : Nat) : Prop :=
  (1 ≤ m w 0 ∧ m w 0 ≤ 10) ∧
  ((m w 2 = -1 ∧ ∀ p, p < 10 → m (w + 3) p = 0) ∨ ((0 ≤ m w 2 ∧ m w 2 < m w 0) ∧ 0 < m (w + 3) (m w 2).toNat)) ∧
  (m w 1 = sm (fun p => if 0 < m (w + 3) p then 1 else 0) 10 ∧ m w 1 ≤ 2) ∧
  (∀ p, p < 10 → (0 ≤ m (w + 3) p ∧ m (w + 3) p ≤ 6) ∧ (0 < m (w + 3) p → (p : Int) < m w 0)) ∧
  (∀ p, p < 10 → (0 ≤ m (w + 1) p ∧ m (w + 1) p ≤ 3) ∧ 0 ≤ m (w + 2) p ∧ m (w + 2) p ≤ 8) ∧
  (∀ j, j < 100 → m (w + 4) j = 1000000 ∨ (1 ≤ m (w + 4) j ∧ m (w + 4) j ≤ 99)) ∧
  ∀ z, z < 4 → (10 ≤ m (w + 7 + 2 * z) 1 ∧ m (w + 7 + 2 * z) 1 ≤ 600) ∧ ∀ h, h < 24 → 0 ≤ m (w + 8 + 2 * z) h ∧ m (w + 8 + 2 * z) h ≤ 999
def tE (m : mz_M) (w : Nat) (R : Nat → Int) : Prop :=
  R 0 = m w 0 ∧ (∀ p, p < 10 → R (203 + p) = m (w + 1) p ∧ R (213 + p) = m (w + 2) p ∧ R (223 + p) = m (w + 3) p) ∧
  (∀ j, j < 100 → R (3 + j) = m (w + 4) j) ∧ ∀ z, z < 4 → R (329 + z) = m (w + 7 + 2 * z) 1 ∧ ∀ h, h < 24 → R (233 + 24 * z + h) = m (w + 8 + 2 * z) h
def tZ (R : Nat → Int) : Prop := ∀ j, (j = 2 ∨ (103 ≤ j ∧ j < 203) ∨ (333 ≤ j ∧ j < 2430)) → R j = 0
def tQ (m : mz_M) (w : Nat) (R : Nat → Int) : Prop := tW m w ∧ tE m w R ∧ tZ R ∧ R 1 = if m w 2 = -1 then -3 else m w 2
theorem tQ_zone {m : mz_M} {w p : Nat} {R : Nat → Int} {v : Int} (h : tQ m w R) (hp : p < 10) (hv : 0 ≤ v ∧ v ≤ 3) : tQ (mz_up m (w + 1) p v) w (vU R (203 + p) v) := by
  obtain ⟨⟨a1, a2, a3, a4, a5, a6, a7⟩, ⟨b1, b2, b3, b4⟩, c, d⟩ := h
  have u0 : ∀ j, mz_up m (w + 1) p v w j = m w j := fun j => up_o (by omega)
  have u3 : ∀ j, mz_up m (w + 1) p v (w + 3) j = m (w + 3) j := fun j => up_o (by omega)
  refine ⟨⟨?_, ?_, ?_, ?_, ?_, ?_, ?_⟩, ⟨?_, ?_, ?_, ?_⟩, ?_, ?_⟩
  · rw [u0]; exact a1
  · simp only [u0, u3]; exact a2
  · simp only [u0, u3]; exact a3
  · simp only [u0, u3]; exact a4
  · intro q hq
    have := a5 q hq
    unfold mz_up
    grind
  · intro j hj; rw [up_o (by omega)]; exact a6 j hj
  · intro z hz
    rw [up_o (by omega)]
    refine ⟨(a7 z hz).1, fun j hj => ?_⟩
    rw [up_o (by omega)]; exact (a7 z hz).2 j hj
  · rw [vU_n (by omega), u0]; exact b1
  · intro q hq
    have := b2 q hq
    unfold mz_up vU
    grind
  · intro j hj; rw [vU_n (by omega), up_o (by omega)]; exact b3 j hj
  · intro z hz
    rw [vU_n (by omega), up_o (by omega)]
    refine ⟨(b4 z hz).1, fun j hj => ?_⟩
    rw [vU_n (by omega), up_o (by omega)]; exact (b4 z hz).2 j hj
  · intro j hj; rw [vU_n (by omega)]; exact c j hj
  · rw [vU_n (by omega), u0]; exact d
theorem tQ_spaces {m : mz_M} {w p : Nat} {R : Nat → Int} {v : Int} (h : tQ m w R) (hp : p < 10) (hv : 0 ≤ v ∧ v ≤ 8) : tQ (mz_up m (w + 2) p v) w (vU R (213 + p) v) := by
  obtain ⟨⟨a1, a2, a3, a4, a5, a6, a7⟩, ⟨b1, b2, b3, b4⟩, c, d⟩ := h
  have u0 : ∀ j, mz_up m (w + 2) p v w j = m w j := fun j => up_o (by omega)
  have u3 : ∀ j, mz_up m (w + 2) p v (w + 3) j = m (w + 3) j := fun j => up_o (by omega)
  refine ⟨⟨?_, ?_, ?_, ?_, ?_, ?_, ?_⟩, ⟨?_, ?_, ?_, ?_⟩, ?_, ?_⟩
  · rw [u0]; exact a1
  · simp only [u0, u3]; exact a2
  · simp only [u0, u3]; exact a3
  · simp only [u0, u3]; exact a4
  · intro q hq
    have := a5 q hq
    unfold mz_up
    grind
  · intro j hj; rw [up_o (by omega)]; exact a6 j hj
  · intro z hz
    rw [up_o (by omega)]
    refine ⟨(a7 z hz).1, fun j hj => ?_⟩
    rw [up_o (by omega)]; exact (a7 z hz).2 j hj
  · rw [vU_n (by omega), u0]; exact b1
  · intro q hq
    have := b2 q hq
    unfold mz_up vU
    grind
  · intro j hj; rw [vU_n (by omega), up_o (by omega)]; exact b3 j hj
  · intro z hz
    rw [vU_n (by omega), up_o (by omega)]
    refine ⟨(b4 z hz).1, fun j hj => ?_⟩
    rw [vU_n (by omega), up_o (by omega)]; exact (b4 z hz).2 j hj
  · intro j hj; rw [vU_n (by omega)]; exact c j hj
  · rw [vU_n (by omega), u0]; exact d
theorem tQ_stay {m : mz_M} {w k : Nat} {R : Nat → Int} {v : Int} (h : tQ m w R) (hk : k < 4) (hv : 10 ≤ v ∧ v ≤ 600) : tQ (mz_up m (w + 7 + 2 * k) 1 v) w (vU R (329 + k) v) := by
  obtain ⟨⟨a1, a2, a3, a4, a5, a6, a7⟩, ⟨b1, b2, b3, b4⟩, c, d⟩ := h
  have u0 : ∀ j, mz_up m (w + 7 + 2 * k) 1 v w j = m w j := fun j => up_o (by omega)
  have u3 : ∀ j, mz_up m (w + 7 + 2 * k) 1 v (w + 3) j = m (w + 3) j := fun j => up_o (by omega)
  have e : ∀ z j, mz_up m (w + 7 + 2 * k) 1 v (w + 8 + 2 * z) j = m (w + 8 + 2 * z) j := fun z j => up_o (by omega)
  have e2 : ∀ z, mz_up m (w + 7 + 2 * k) 1 v (w + 7 + 2 * z) 1 = if z = k then v else m (w + 7 + 2 * z) 1 := fun z => by
    by_cases q : z = k
    · subst q; rw [if_pos rfl, up_s]
    · rw [if_neg q, up_o (by omega)]
  refine ⟨⟨?_, ?_, ?_, ?_, ?_, ?_, ?_⟩, ⟨?_, ?_, ?_, ?_⟩, ?_, ?_⟩
  · rw [u0]; exact a1
  · simp only [u0, u3]; exact a2
  · simp only [u0, u3]; exact a3
  · simp only [u0, u3]; exact a4
  · intro q hq; rw [up_o (by omega), up_o (by omega)]; exact a5 q hq
  · intro j hj; rw [up_o (by omega)]; exact a6 j hj
  · intro z hz
    rw [e2]
    refine ⟨?_, fun j hj => ?_⟩
    · split
      · exact hv
      · exact (a7 z hz).1
    · rw [e]; exact (a7 z hz).2 j hj
  · rw [vU_n (by omega), u0]; exact b1
  · intro q hq
    rw [vU_n (by omega), vU_n (by omega), vU_n (by omega), up_o (by omega), up_o (by omega), up_o (by omega)]
    exact b2 q hq
  · intro j hj; rw [vU_n (by omega), up_o (by omega)]; exact b3 j hj
  · intro z hz
    rw [e2]
    refine ⟨?_, fun j hj => ?_⟩
    · by_cases q : z = k
      · subst q; rw [if_pos rfl, vU_s]
      · rw [if_neg q, vU_n (by omega)]; exact (b4 z hz).1
    · rw [vU_n (by omega), e]; exact (b4 z hz).2 j hj
  · intro j hj; rw [vU_n (by omega)]; exact c j hj
  · rw [vU_n (by omega), u0]; exact d
/-- rates from an hour to another -/
def vRt (R : Nat → Int) (k f t : Nat) (v : Int) : Nat → Int := fun j => if 233 + 24 * k + f ≤ j ∧ j < 233 + 24 * k + t then v else R j
theorem tQ_rate {m : mz_M} {w k f t : Nat} {R : Nat → Int} {v : Int} (h : tQ m w R) (hk : k < 4) (ht : t ≤ 24) (hv : 0 ≤ v ∧ v ≤ 999) : tQ (setR m (w + 8 + 2 * k) f t v) w (vRt R k f t v) := by
  obtain ⟨⟨a1, a2, a3, a4, a5, a6, a7⟩, ⟨b1, b2, b3, b4⟩, c, d⟩ := h
  have uo : ∀ a j, a ≠ w + 8 + 2 * k → setR m (w + 8 + 2 * k) f t v a j = m a j := fun a j ha => by unfold setR; rw [if_neg (fun q => ha q.1)]
  have vo : ∀ j, (j < 233 ∨ 329 ≤ j) → vRt R k f t v j = R j := fun j hj => by unfold vRt; rw [if_neg (by omega)]
  refine ⟨⟨?_, ?_, ?_, ?_, ?_, ?_, ?_⟩, ⟨?_, ?_, ?_, ?_⟩, ?_, ?_⟩
  · rw [uo _ _ (by omega)]; exact a1
  · simp only [uo w _ (by omega), uo (w + 3) _ (by omega)]; exact a2
  · simp only [uo w _ (by omega), uo (w + 3) _ (by omega)]; exact a3
  · simp only [uo w _ (by omega), uo (w + 3) _ (by omega)]; exact a4
  · intro q hq; rw [uo _ _ (by omega), uo _ _ (by omega)]; exact a5 q hq
  · intro j hj; rw [uo _ _ (by omega)]; exact a6 j hj
  · intro z hz
    rw [uo _ _ (by omega)]
    refine ⟨(a7 z hz).1, fun j hj => ?_⟩
    have := (a7 z hz).2 j hj
    unfold setR
    split
    · exact hv
    · exact this
  · rw [vo _ (by omega), uo _ _ (by omega)]; exact b1
  · intro q hq
    rw [vo _ (by omega), vo _ (by omega), vo _ (by omega), uo _ _ (by omega), uo _ _ (by omega), uo _ _ (by omega)]
    exact b2 q hq
  · intro j hj; rw [vo _ (by omega), uo _ _ (by omega)]; exact b3 j hj
  · intro z hz
    rw [vo _ (by omega), uo _ _ (by omega)]
    refine ⟨(b4 z hz).1, fun j hj => ?_⟩
    have := (b4 z hz).2 j hj
    unfold setR vRt
    by_cases q : z = k ∧ f ≤ j ∧ j < t
    · rw [if_pos (by omega), if_pos (by omega)]
    · rw [if_neg (by omega), if_neg (by omega)]; exact this
  · intro j hj; rw [vo _ (by omega)]; exact c j hj
  · rw [vo _ (by omega), uo _ _ (by omega)]; exact d
theorem tQ_road {m : mz_M} {w f t : Nat} {R : Nat → Int} {v : Int} (h : tQ m w R) (hf : f < 10) (ht : t < 10) (hv : 1 ≤ v ∧ v ≤ 99) : tQ (roadUp m w f t v) w (vU (vU R (3 + (10 * f + t)) (min (R (3 + (10 * f + t))) v)) (3 + (10 * t + f)) (min (R (3 + (10 * f + t))) v)) := by
  obtain ⟨⟨a1, a2, a3, a4, a5, a6, a7⟩, ⟨b1, b2, b3, b4⟩, c, d⟩ := h
  have uo : ∀ a j, a ≠ w + 4 → roadUp m w f t v a j = m a j := fun a j ha => by unfold roadUp; rw [up_o ha, up_o ha]
  have hb := b3 (10 * f + t) (by omega)
  have ha := a6 (10 * f + t) (by omega)
  have hX : min (R (3 + (10 * f + t))) v = min v (m (w + 4) (10 * f + t)) := by omega
  rw [hX]
  have hXr : 1 ≤ min v (m (w + 4) (10 * f + t)) ∧ min v (m (w + 4) (10 * f + t)) ≤ 99 := by omega
  unfold roadUp at uo ⊢
  generalize min v (m (w + 4) (10 * f + t)) = X at hXr uo ⊢
  refine ⟨⟨?_, ?_, ?_, ?_, ?_, ?_, ?_⟩, ⟨?_, ?_, ?_, ?_⟩, ?_, ?_⟩
  · rw [uo _ _ (by omega)]; exact a1
  · simp only [uo w _ (by omega), uo (w + 3) _ (by omega)]; exact a2
  · simp only [uo w _ (by omega), uo (w + 3) _ (by omega)]; exact a3
  · simp only [uo w _ (by omega), uo (w + 3) _ (by omega)]; exact a4
  · intro q hq; rw [uo _ _ (by omega), uo _ _ (by omega)]; exact a5 q hq
  · intro j hj
    have := a6 j hj
    unfold mz_up
    grind
  · intro z hz
    rw [uo _ _ (by omega)]
    refine ⟨(a7 z hz).1, fun j hj => ?_⟩
    rw [uo _ _ (by omega)]; exact (a7 z hz).2 j hj
  · rw [vU_n (by omega), vU_n (by omega), uo _ _ (by omega)]; exact b1
  · intro q hq
    rw [vU_n (by omega), vU_n (by omega), vU_n (by omega), vU_n (by omega), vU_n (by omega), vU_n (by omega), uo _ _ (by omega), uo _ _ (by omega), uo _ _ (by omega)]
    exact b2 q hq
  · intro j hj
    have := b3 j hj
    unfold mz_up vU
    grind
  · intro z hz
    rw [vU_n (by omega), vU_n (by omega), uo _ _ (by omega)]
    refine ⟨(b4 z hz).1, fun j hj => ?_⟩
    rw [vU_n (by omega), vU_n (by omega), uo _ _ (by omega)]; exact (b4 z hz).2 j hj
  · intro j hj; rw [vU_n (by omega), vU_n (by omega)]; exact c j hj
  · rw [vU_n (by omega), vU_n (by omega), uo _ _ (by omega)]; exact d
theorem sm_pn {f : Nat → Int} {k : Nat} {v : Int} (hk : k < 10) (hv : 0 < v) : sm (fun p => if 0 < (if p = k then v else f p) then 1 else 0) 10 = sm (fun p => if 0 < f p then 1 else 0) 10 + if 0 < f k then 0 else 1 := by
  have h := sm_one (n := 10) (h0 := k) (c := if 0 < f k then 0 else 1) (f := fun p => if 0 < f p then 1 else 0) (g := fun p => if 0 < (if p = k then v else f p) then 1 else 0) (fun i hi => by
    by_cases q : i = k
    · subst q
      rw [if_pos rfl, if_pos hv, if_pos rfl]
      split <;> rfl
    · rw [if_neg q, if_neg q]
      omega)
  rw [if_pos hk] at h
  exact h
theorem tQ_pound {m : mz_M} {w k : Nat} {R : Nat → Int} {v : Int} (h : tQ m w R) (hk : (k : Int) < m w 0) (hv : 1 ≤ v ∧ v ≤ 6) (hc : 0 < m (w + 3) k ∨ m w 1 < 2) : tQ (poundUp m w k v) w (vU (vU R (223 + k) v) 1 (if R 1 < 0 then k else R 1)) := by
  obtain ⟨⟨a1, a2, a3, a4, a5, a6, a7⟩, ⟨b1, b2, b3, b4⟩, c, d⟩ := h
  have hk10 : k < 10 := by omega
  have e3 : ∀ p, poundUp m w k v (w + 3) p = if p = k then v else m (w + 3) p := fun p => by
    unfold poundUp
    by_cases q : p = k
    · subst q; rw [up_s, if_pos rfl]
    · rw [up_k q, if_neg q]
      split
      · rfl
      · split <;> simp (disch := omega) only [up_o]
  have eo : ∀ a j, a ≠ w → a ≠ w + 3 → poundUp m w k v a j = m a j := fun a j h1 h2 => by
    unfold poundUp
    rw [up_o h2]
    split
    · rfl
    · split <;> simp (disch := omega) only [up_o]
  have e0 : poundUp m w k v w 0 = m w 0 := by
    unfold poundUp
    rw [up_o (by omega)]
    split
    · rfl
    · split <;> simp (disch := omega) only [up_k]
  have e1 : poundUp m w k v w 1 = m w 1 + if 0 < m (w + 3) k then 0 else 1 := by
    unfold poundUp
    rw [up_o (by omega)]
    split
    · omega
    · split
      · rw [up_k (by omega), up_s]
      · rw [up_s]
  have e2 : poundUp m w k v w 2 = if 0 < m (w + 3) k then m w 2 else if m w 2 = -1 then k else m w 2 := by
    unfold poundUp
    rw [up_o (by omega)]
    split
    · rfl
    · split
      · rw [up_s]
      · rw [up_k (by omega)]
  have hvo : ∀ j, j ≠ 1 → j ≠ 223 + k → vU (vU R (223 + k) v) 1 (if R 1 < 0 then k else R 1) j = R j := fun j h1 h2 => by rw [vU_n h1, vU_n h2]
  refine ⟨⟨?_, ?_, ?_, ?_, ?_, ?_, ?_⟩, ⟨?_, ?_, ?_, ?_⟩, ?_, ?_⟩
  · rw [e0]; exact a1
  · right
    rw [e0, e2]
    rcases a2 with ⟨q1, q2⟩ | ⟨q1, q2⟩
    · have hz : ¬ 0 < m (w + 3) k := by rw [q2 k hk10]; omega
      rw [if_neg hz, if_pos q1]
      refine ⟨by omega, ?_⟩
      rw [e3, Int.toNat_natCast, if_pos rfl]; omega
    · have hne : ¬ m w 2 = -1 := by omega
      rw [if_neg hne, ite_self]
      refine ⟨q1, ?_⟩
      rw [e3]
      split
      · omega
      · exact q2
  · rw [e1]
    simp only [e3]
    rw [sm_pn hk10 (by omega), ← a3.1]
    refine ⟨rfl, ?_⟩
    split <;> omega
  · intro p hp
    rw [e3, e0]
    have := a4 p hp
    split
    · subst p; omega
    · exact this
  · intro q hq; rw [eo _ _ (by omega) (by omega), eo _ _ (by omega) (by omega)]; exact a5 q hq
  · intro j hj; rw [eo _ _ (by omega) (by omega)]; exact a6 j hj
  · intro z hz
    rw [eo _ _ (by omega) (by omega)]
    refine ⟨(a7 z hz).1, fun j hj => ?_⟩
    rw [eo _ _ (by omega) (by omega)]; exact (a7 z hz).2 j hj
  · rw [hvo _ (by omega) (by omega), e0]; exact b1
  · intro q hq
    rw [hvo _ (by omega) (by omega), hvo _ (by omega) (by omega), eo _ _ (by omega) (by omega), eo _ _ (by omega) (by omega), e3, vU_n (by omega)]
    have := b2 q hq
    refine ⟨this.1, this.2.1, ?_⟩
    by_cases z : q = k
    · subst z; rw [vU_s, if_pos rfl]
    · rw [if_neg z, vU_n (by omega)]; exact this.2.2
  · intro j hj; rw [hvo _ (by omega) (by omega), eo _ _ (by omega) (by omega)]; exact b3 j hj
  · intro z hz
    rw [hvo _ (by omega) (by omega), eo _ _ (by omega) (by omega)]
    refine ⟨(b4 z hz).1, fun j hj => ?_⟩
    rw [hvo _ (by omega) (by omega), eo _ _ (by omega) (by omega)]; exact (b4 z hz).2 j hj
  · intro j hj; rw [hvo _ (by omega) (by omega)]; exact c j hj
  · rw [vU_s, e2, d]
    rcases a2 with ⟨q1, q2⟩ | ⟨q1, q2⟩
    · have hz : ¬ 0 < m (w + 3) k := by rw [q2 k hk10]; omega
      rw [if_pos q1, if_neg hz, if_pos q1, if_pos (by omega), if_neg (by omega)]
    · have hne : ¬ m w 2 = -1 := by omega
      simp only [if_neg hne, ite_self]
      rw [if_neg (by omega)]
