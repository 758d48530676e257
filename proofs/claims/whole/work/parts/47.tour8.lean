/-! At most six candidates. -/
def blt (k : Nat → Int) (d c : Nat) : Prop := k d < k c ∨ k d = k c ∧ d < c
theorem mx_ex (S : Nat → Prop) (k : Nat → Int) : ∀ n, (∀ i, i < n → ¬ S i) ∨ ∃ c, c < n ∧ S c ∧ ∀ d, d < n → S d → d ≠ c → blt k d c := by
  intro n
  induction n with
  | zero => exact Or.inl fun i hi => by omega
  | succ n ih =>
    by_cases hn : S n
    · rcases ih with h | ⟨c, hc, hs, hm⟩
      · refine Or.inr ⟨n, by omega, hn, fun d hd hd2 hne => absurd hd2 (h d (by omega))⟩
      · by_cases hk : k c ≤ k n
        · refine Or.inr ⟨n, by omega, hn, fun d hd hd2 hne => ?_⟩
          by_cases hdc : d = c
          · subst hdc; unfold blt; omega
          · have := hm d (by omega) hd2 hdc
            unfold blt at this ⊢
            omega
        · refine Or.inr ⟨c, by omega, hs, fun d hd hd2 hne => ?_⟩
          by_cases hdn : d = n
          · subst hdn; unfold blt; omega
          · exact hm d (by omega) hd2 hne
    · rcases ih with h | ⟨c, hc, hs, hm⟩
      · refine Or.inl fun i hi => ?_
        by_cases e : i = n
        · subst e; exact hn
        · exact h i (by omega)
      · refine Or.inr ⟨c, by omega, hs, fun d hd hd2 hne => ?_⟩
        by_cases e : d = n
        · subst e; exact absurd hd2 hn
        · exact hm d (by omega) hd2 hne
theorem chS_n {m : mz_M} {q u a : Nat} : ∀ j, ((chS m q u a j).2 : Int) = sm (fun c => if a / 2 ^ c % 2 = 1 ∧ sm (ccN m u (u + 24 + c) a) 16 < 6 then 1 else 0) j := by
  intro j
  induction j with
  | zero => rfl
  | succ j ih =>
    rw [sm, ← ih, chS]
    split
    · simp only; omega
    · omega
theorem chS_6 {m : mz_M} {q u a : Nat} (h : cnO m u) : (chS m q u a 16).2 ≤ 6 := by
  have hn := chS_n (m := m) (q := q) (u := u) (a := a) 16
  rcases mx_ex (fun c => a / 2 ^ c % 2 = 1 ∧ sm (ccN m u (u + 24 + c) a) 16 < 6) (fun c => m (u + 24 + c) 4) 16 with h0 | ⟨c, hc, hs, hm⟩
  · have : sm (fun c => if a / 2 ^ c % 2 = 1 ∧ sm (ccN m u (u + 24 + c) a) 16 < 6 then 1 else 0) 16 ≤ 0 * 16 := sm_ub fun i hi => by rw [if_neg (h0 i hi)]; omega
    omega
  · have h1 : sm (fun c => if a / 2 ^ c % 2 = 1 ∧ sm (ccN m u (u + 24 + c) a) 16 < 6 then 1 else 0) 16 ≤ sm (fun d => ccN m u (u + 24 + c) a d + if d = c then 1 else 0) 16 := sm_le fun d hd => by
      have hx : 0 ≤ ccN m u (u + 24 + c) a d := by unfold ccN; split <;> omega
      split
      · rename_i hd2
        by_cases e : d = c
        · rw [if_pos e]; omega
        · have hb := hm d hd hd2 e
          have : ccN m u (u + 24 + c) a d = 1 := by
            have hq : m (u + 24 + d) 4 < m (u + 24 + c) 4 ∨ m (u + 24 + d) 4 = m (u + 24 + c) 4 ∧ (d : Int) < m (u + 24 + c) 0 := by
              have h7 := h c hc
              unfold blt at hb
              simp only at hb
              omega
            unfold ccN
            exact if_pos ⟨hd2.1, hq⟩
          omega
      · split <;> omega
    have h2 := sm_one (f := ccN m u (u + 24 + c) a) (g := fun d => ccN m u (u + 24 + c) a d + if d = c then 1 else 0) (n := 16) (h0 := c) (c := 1) (fun i _ => rfl)
    rw [if_pos hc] at h2
    have := hs.2
    omega
