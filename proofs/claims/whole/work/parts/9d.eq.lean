/-! What the model computes is what the class computes. -/
section EQ
variable {m : mz_M} {u N : Nat} {V : Nat → Int}
theorem q_zone (h : RW m u V N) {p : Nat} (hp : p < 10) : mzA V p = znP m (u + 1) p ∧ (∀ j, j < 24 → mR V (mzA V p) j = m (zoA m u p + 1) j) ∧ V (329 + mzA V p) = m (zoA m u p) 1 := by
  have a := (h.1.2.1.2.1 p hp).1
  have b := (h.1.1.2.2.2.2.1 p hp).1
  have e : mzA V p = znP m (u + 1) p := by
    unfold mzA znP
    rw [Int.toNat_natCast, if_pos (by omega), a]
  have hz : mzA V p < 4 := by rw [e]; exact znP_lt m (u + 1) p
  have g := h.1.2.1.2.2.2 (mzA V p) hz
  refine ⟨e, fun j hj => ?_, ?_⟩
  · show V (233 + 24 * mzA V p + j) = _
    rw [g.2 j hj, e]
    unfold zoA
    rw [show u + 1 + 8 + 2 * znP m (u + 1) p = u + 8 + 2 * znP m (u + 1) p + 1 by omega]
  · rw [g.1, e]
    unfold zoA
    rw [show u + 1 + 7 + 2 * znP m (u + 1) p = u + 8 + 2 * znP m (u + 1) p by omega]
theorem q_at (h : RW m u V N) (p : Int) {c : Nat} (hc : c < 16) : mAt V p c = cos m u p c := by
  have a := (h.2.2.2.1 c hc).1
  unfold mAt cos
  rw [a.2.1, a.2.2.1]
  apply decide_eq_decide.mpr
  omega
theorem q_pn (h : RW m u V N) (p : Int) {c : Nat} (hc : c < 16) : mPn V p c = pnd m u p c := by
  have a := (h.2.2.2.1 c hc).1
  unfold mPn pnd
  rw [a.2.1, a.2.2.1]
theorem q_tw (h : RW m u V N) {c : Nat} (hc : c < 16) : mTw V c = ctt m u c := by
  have a := (h.2.2.2.1 c hc).1
  have b := h.2.1.1
  unfold mTw ctt
  rw [a.2.1, a.2.2.2.2.2.2, b.1]
  apply decide_eq_decide.mpr
  omega
theorem q_ps (h : RW m u V N) (p e : Int) {c : Nat} (hc : c < 16) : mPs V p e c = cps m u p e c := by
  have a := (h.2.2.2.1 c hc).1
  unfold mPs cps
  rw [a.2.1, a.2.2.1, a.2.2.2.1]
theorem q_ah (h : RW m u V N) {c k : Nat} (hc : c < 16) (hk : k < 16) : mAh V c k = ccN m u (u + 24 + c) (bs (ctt m u) 16) k := by
  have a := (h.2.2.2.1 c hc).1
  have b := (h.2.2.2.1 k hk).1
  unfold mAh ccN
  rw [bs_tb _ hk, q_tw h hk, b.2.2.2.2.2.2, a.2.2.2.2.2.2, a.1]
  cases hct : ctt m u k
  · rw [if_neg (by simp), if_neg (by simp)]
  · simp only [true_and, if_true]
    congr 1
    apply propext
    omega
/-- some minutes later -/
theorem q_ov (h : RW m u V N) {t : Nat} (ht : m u 3 = t) {c : Nat} (hc : c < 16) (d : Nat) : mOv (lat V d) c = ovr m u (u + 24 + c) (t + d) := by
  have a := (h.2.2.2.1 c hc).1
  have b := (h.2.2.2.1 c hc).2.1
  have s := RW_sz h
  have e : ∀ j, j ≠ 2 → lat V d j = V j := fun j hj => if_neg hj
  have e2 : lat V d 2 = V 2 + d := if_pos rfl
  obtain ⟨p, hp⟩ := nat_i b.2.1.1
  obtain ⟨f, hf⟩ := nat_i b.2.2.1.1
  have z := q_zone h (show p < 10 by omega)
  unfold mOv ovr
  rw [show mc (lat V d) c 1 = mc V c 1 from e _ (by omega), show mc (lat V d) c 2 = mc V c 2 from e _ (by omega), a.2.2.1, a.2.2.2.1, hp, hf, e2, h.2.1.1.1, ht]
  simp only [Int.toNat_natCast]
  rw [e _ (by omega), show ((t : Int) + (d : Int)).toNat = t + d by omega]
  refine cm_congr (fun j hj => ?_) _ _
  show lat V d (233 + 24 * (V (203 + p)).toNat + j) = _
  rw [e _ (by omega)]
  exact z.2.1 j hj
theorem q_up (h : RW m u V N) {c : Nat} (hc : c < 16) : mUp V N c = m (u + 24 + c) 5 - m (u + 24 + c) 6 := by
  have a := (h.2.2.2.1 c hc).2.2.1.1
  have key : ∀ n, n ≤ N → mUp V n c = max 0 (mTc V n c - m (u + 24 + c) 6) := by
    intro n
    induction n with
    | zero =>
      intro _
      show (0 : Int) = max 0 (0 - m (u + 24 + c) 6)
      omega
    | succ n ih =>
      intro hn
      have i1 := ih (by omega)
      have en := (h.2.2.2.2.2 n (by omega)).2.2.2
      have hT : mTc V (n + 1) c = mTc V n c + if me V n 1 = 4 ∧ me V n 2 = c then 1 else 0 := rfl
      have hU : mUp V (n + 1) c = mUp V n c + if me V n 1 = 4 ∧ me V n 2 = c ∧ me V n 4 = 0 then 1 else 0 := rfl
      rw [hT, hU, i1]
      by_cases q : me V n 1 = 4 ∧ me V n 2 = c
      · rw [if_pos q]
        rw [q.2, Int.toNat_natCast] at en
        by_cases w : mTc V n c < m (u + 24 + c) 6
        · rw [if_pos ⟨q.1, w⟩] at en
          rw [if_neg (by omega)]
          omega
        · rw [if_neg (fun x => w x.2)] at en
          rw [if_pos ⟨q.1, q.2, en⟩]
          omega
      · rw [if_neg q, if_neg (fun x => q ⟨x.1, x.2.1⟩)]
        omega
  rw [key N (Nat.le_refl _), ← a.1]
  omega
theorem tke_ex {P : Nat → Prop} [DecidablePred P] : ∀ (r j : Nat) (q : Int), 0 ≤ q → q < sm (fun i => if P (j + i) then 1 else 0) r → ∃ i, tke P r j q = some i := by
  intro r
  induction r with
  | zero => intro j q h1 h2; exact absurd h2 (by show ¬ q < 0; omega)
  | succ r ih =>
    intro j q h1 h2
    have hs : sm (fun i => if P (j + i) then 1 else 0) (r + 1) = (if P j then 1 else 0) + sm (fun i => if P (j + 1 + i) then 1 else 0) r := by
      have := sm_shift (fun i => if P (j + i) then 1 else 0) r
      have e : sm (fun i => if P (j + (i + 1)) then 1 else 0) r = sm (fun i => if P (j + 1 + i) then 1 else 0) r := sm_congr fun i _ => by rw [show j + (i + 1) = j + 1 + i by omega]
      rw [e] at this
      simp only [Nat.add_zero] at this
      rw [sm, this]
      omega
    unfold tke
    by_cases hp : P j
    · rw [if_pos hp]
      rw [if_pos hp] at hs
      by_cases h0 : q = 0
      · rw [if_pos h0]; exact ⟨j, rfl⟩
      · rw [if_neg h0]
        exact ih (j + 1) (q - 1) (by omega) (by omega)
    · rw [if_neg hp]
      rw [if_neg hp] at hs
      exact ih (j + 1) q h1 (by omega)
theorem q_lt (h : RW m u V N) {t : Nat} (ht : m u 3 = t) {c : Nat} (hc : c < 16) (d : Nat) : (mLt (lat V d) N c = true) ↔ (0 < m (u + 24 + c) 5 ∧ ((t + d : Nat) : Int) - 120 < m (u + 24 + c) 7) := by
  have a := (h.2.2.2.1 c hc).2.2.1
  have hN := h.2.2.2.2.1.2.2
  have e : ∀ i w, w < 5 → me (lat V d) i w = me V i w := fun i w hw => if_neg (by omega)
  have e2 : lat V d 2 = V 2 + d := if_pos rfl
  have eT : mTc (lat V d) N c = mTc V N c := sm_congr fun i _ => by rw [e i 1 (by omega), e i 2 (by omega)]
  have etk : ∀ (r j : Nat) (q : Int), tke (fun i => me (lat V d) i 1 = 4 ∧ me (lat V d) i 2 = c) r j q = tke (fun i => me V i 1 = 4 ∧ me V i 2 = c) r j q := by
    intro r
    induction r with
    | zero => intros; rfl
    | succ r ih =>
      intro j q
      unfold tke
      rw [e j 1 (by omega), e j 2 (by omega), ih, ih]
  have hT := mTc_ok V N c
  unfold mLt
  rw [eT, etk, ← a.1.1]
  rcases Int.lt_or_le 0 (m (u + 24 + c) 5) with q | q
  · obtain ⟨i, hi⟩ := tke_ex (P := fun i => me V i 1 = 4 ∧ me V i 2 = c) N 0 (m (u + 24 + c) 5 - 1) (by omega) (by
      have : sm (fun i => if me V (0 + i) 1 = 4 ∧ me V (0 + i) 2 = c then 1 else 0) N = mTc V N c := sm_congr fun i _ => by rw [Nat.zero_add]
      rw [this, ← a.1.1]; omega)
    have hm := a.2.2.2 i hi
    rw [hi]
    simp only [decide_eq_true_eq]
    rw [e i 0 (by omega), e2, hm, h.2.1.1.1, ht]
    omega
  · rw [tke_neg _ _ _ (by omega)]
    simp only [Bool.false_eq_true, false_iff]
    omega
theorem q_fi (h : RW m u V N) {t : Nat} (ht : m u 3 = t) {c : Nat} (hc : c < 16) (d : Nat) : mFi (lat V d) N c = tkF m u (u + 24 + c) (t + d) := by
  have a := (h.2.2.2.1 c hc).1
  have e : ∀ j, j ≠ 2 → lat V d j = V j := fun j hj => if_neg hj
  have hu : mUp (lat V d) N c = mUp V N c := sm_congr fun i _ => by
    unfold me
    rw [e _ (by omega), e _ (by omega), e _ (by omega)]
  have hl := q_lt h ht hc d
  have ho := q_ov h ht hc d
  have hok := cm_ok (m (zoA m u (m (u + 24 + c) 2).toNat + 1)) (m (u + 24 + c) 3).toNat (t + d - (m (u + 24 + c) 3).toNat)
  rw [show cm (m (zoA m u (m (u + 24 + c) 2).toNat + 1)) (m (u + 24 + c) 3).toNat (t + d - (m (u + 24 + c) 3).toNat) = ovr m u (u + 24 + c) (t + d) from rfl] at hok
  unfold mFi tkF
  rw [show mc (lat V d) c 0 = mc V c 0 from e _ (by omega), a.2.1, ho, hu, q_up h hc]
  generalize ovr m u (u + 24 + c) (t + d) = O at hok ⊢
  by_cases h1 : m (u + 24 + c) 1 = 1
  · rw [if_pos h1]
    by_cases h2 : mLt (lat V d) N c = true
    · rw [if_pos (Or.inr h2), if_pos (Or.inr (hl.mp h2))]
    · have h3 : ¬ (m (u + 24 + c) 1 ≠ 1 ∨ (0 < m (u + 24 + c) 5 ∧ ((t + d : Nat) : Int) - 120 < m (u + 24 + c) 7)) := fun q => q.elim (fun q => q h1) (fun q => h2 (hl.mpr q))
      rw [if_neg h3]
      by_cases h4 : O = 0
      · rw [if_pos (Or.inl h4), if_neg (by omega)]
      · rw [if_neg (fun q => q.elim h4 h2), if_pos (by omega)]
  · rw [if_neg h1, if_pos (Or.inl h1)]
theorem q_vs (h : RW m u V N) {t : Nat} (ht : m u 3 = t) {c : Nat} (hc : c < 16) (d p : Nat) : mVs (lat V d) N p c = tkS m u p (t + d) c := by
  have a := (h.2.2.2.1 c hc).1
  have e : mAt (lat V d) p c = mAt V p c := by
    unfold mAt mc lat
    rw [if_neg (by omega), if_neg (by omega)]
  have hf := q_fi h ht hc d
  unfold mVs tkS
  rw [e, q_at h p hc, hf]
  unfold cos
  simp only [decide_eq_true_eq]
  by_cases h1 : m (u + 24 + c) 1 = 1 ∧ m (u + 24 + c) 2 = p
  · rw [if_pos ⟨Or.inl h1.1, h1.2⟩, if_pos h1]
  · rw [if_neg h1]
    by_cases h2 : (m (u + 24 + c) 1 = 1 ∨ m (u + 24 + c) 1 = 2) ∧ m (u + 24 + c) 2 = p
    · rw [if_pos h2]
      unfold tkF
      rw [if_pos (Or.inl (by omega))]
    · rw [if_neg h2]
theorem q_vsum (h : RW m u V N) {t : Nat} (ht : m u 3 = t) (d p : Nat) : sm (mVs (lat V d) N p) 16 = sm (tkS m u p (t + d)) 16 := sm_congr fun _ hc => q_vs h ht hc d p
theorem q_vn (h : RW m u V N) {t : Nat} (ht : m u 3 = t) {c : Nat} (hc : c < 16) (d p : Nat) : mVn (lat V d) N p c = tkN m u p (t + d) c := by
  unfold mVn tkN
  rw [q_vs h ht hc d p]
  unfold tkS
  by_cases h1 : m (u + 24 + c) 1 = 1 ∧ m (u + 24 + c) 2 = p
  · rw [if_pos h1]
    by_cases h2 : 0 < tkF m u (u + 24 + c) (t + d)
    · rw [if_pos h2, if_pos ⟨h1, h2⟩]
    · rw [if_neg h2, if_neg (fun q => h2 q.2)]
  · rw [if_neg h1, if_neg (by omega), if_neg (fun q => h1 q.1)]
theorem lat_0 (V : Nat → Int) : lat V ((0 : Nat) : Int) = V := by
  funext j
  unfold lat
  split
  · subst j; simp
  · rfl
theorem q_ow (h : RW m u V N) {c : Nat} (hc : c < 16) : mOw V N c = owe m (u + 24 + c) := by
  have a := h.2.2.2.1 c hc
  have b := a.1
  have d := a.2.2.1
  unfold mOw owe
  rw [← d.2.2.1]
  omega
theorem RW_cmy (h : RW m u V N) {c : Nat} (hc : c < 16) : cmy m (u + 24 + c) ∧ owe m (u + 24 + c) ≤ 10000000 := by
  have a := h.2.2.2.1 c hc
  have hN := h.2.2.2.2.1.2.2
  have b := a.2.1
  have d := a.2.2.1.2.2.1
  have e : 0 ≤ sm (mUA V c) N ∧ sm (mUA V c) N ≤ 8500 * N := by
    refine ⟨sm_0 fun i hi => ?_, sm_ub fun i hi => ?_⟩ <;>
    · have := (h.2.2.2.2.2 i hi).2.1
      unfold mUA
      split <;> omega
  unfold cmy owe
  omega
end EQ
