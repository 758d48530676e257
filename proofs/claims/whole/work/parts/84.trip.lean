/-! What the model's search keeps. -/
def tM (m : mz_M) (c p bc bp rm : Nat → Int) (bm bl : Int) : mz_M := fun a j => if a = 160 then c j else if a = 161 then p j else if a = 162 then bc j else if a = 163 then bp j else if a = 164 then rm j else if a = 153 ∧ j = 19 then bm else if a = 153 ∧ j = 20 then bl else m a j
section TU
variable (m : mz_M) (c p bc bp rm : Nat → Int) (bm bl : Int)
theorem tM_c (j : Nat) (v : Int) : mz_up (tM m c p bc bp rm bm bl) 160 j v = tM m (vU c j v) p bc bp rm bm bl := by funext a i; unfold mz_up tM vU; grind
theorem tM_p (j : Nat) (v : Int) : mz_up (tM m c p bc bp rm bm bl) 161 j v = tM m c (vU p j v) bc bp rm bm bl := by funext a i; unfold mz_up tM vU; grind
theorem tM_bc (j : Nat) (v : Int) : mz_up (tM m c p bc bp rm bm bl) 162 j v = tM m c p (vU bc j v) bp rm bm bl := by funext a i; unfold mz_up tM vU; grind
theorem tM_bp (j : Nat) (v : Int) : mz_up (tM m c p bc bp rm bm bl) 163 j v = tM m c p bc (vU bp j v) rm bm bl := by funext a i; unfold mz_up tM vU; grind
theorem tM_rm (j : Nat) (v : Int) : mz_up (tM m c p bc bp rm bm bl) 164 j v = tM m c p bc bp (vU rm j v) bm bl := by funext a i; unfold mz_up tM vU; grind
theorem tM_bm (v : Int) : mz_up (tM m c p bc bp rm bm bl) 153 19 v = tM m c p bc bp rm v bl := by funext a i; unfold mz_up tM; grind
theorem tM_bl (v : Int) : mz_up (tM m c p bc bp rm bm bl) 153 20 v = tM m c p bc bp rm bm v := by funext a i; unfold mz_up tM; grind
theorem tM_gc : tM m c p bc bp rm bm bl 160 = c := by funext j; exact if_pos rfl
theorem tM_gp : tM m c p bc bp rm bm bl 161 = p := by funext j; unfold tM; grind
theorem tM_grm : tM m c p bc bp rm bm bl 164 = rm := by funext j; unfold tM; grind
theorem tM_g19 : tM m c p bc bp rm bm bl 153 19 = bm := by unfold tM; grind
theorem tM_g20 : tM m c p bc bp rm bm bl 153 20 = bl := by unfold tM; grind
theorem tM_g18 : tM m c p bc bp rm bm bl 153 18 = m 153 18 := by unfold tM; grind
theorem tM_154 : tM m c p bc bp rm bm bl 154 = m 154 := by funext j; unfold tM; grind
theorem tM_159 : tM m c p bc bp rm bm bl 159 = m 159 := by funext j; unfold tM; grind
end TU
def arO (c : Nat → Int) (h : Nat × Nat → Int) : tR → Prop
  | [] => True
  | x :: R => c R.length = h x ∧ arO c h R
theorem arO_congr {c c' : Nat → Int} {h : Nat × Nat → Int} : ∀ {R : tR}, (∀ k, k < R.length → c' k = c k) → arO c h R → arO c' h R := by
  intro R
  induction R with
  | nil => intros; trivial
  | cons x R ih =>
    intro hk ho
    exact ⟨(hk R.length (by simp only [List.length_cons]; omega)).trans ho.1, ih (fun k hk2 => hk k (by simp only [List.length_cons]; omega)) ho.2⟩
def ctO (R : tR) (t : Nat) : Int := if t = 0 then (ndB R : Int) else pop (ndA R) 16 - ndB R
def rmO (Rm : Nat → Int) (pn : Nat) (pp : Nat → Nat) (R : tR) (rm : Nat → Int) : Prop := (∀ t, t < pn → rm (pp t) = Rm t - ctO R t ∧ 0 ≤ rm (pp t)) ∧ ∀ p, p < 10 → (∀ t, t < pn → p ≠ pp t) → rm p = 0
def tau (pn : Nat) (pp : Nat → Nat) (p : Nat) : Nat := (if 0 < pn ∧ pp 0 < p then 1 else 0) + (if 1 < pn ∧ pp 1 < p then 1 else 0)
def ppO (pn n : Nat) (pp : Nat → Nat) : Prop := (∀ t, t < pn → pp t < n) ∧ (pn = 2 → pp 0 < pp 1)
theorem tau_0 (pn : Nat) (pp : Nat → Nat) : tau pn pp 0 = 0 := by unfold tau; rw [if_neg (by omega), if_neg (by omega)]
theorem tau_n {pn n : Nat} {pp : Nat → Nat} (hpn : pn ≤ 2) (h : ppO pn n pp) : tau pn pp n = pn := by
  unfold tau
  rcases Nat.lt_or_ge 0 pn with q | q
  · have h0 := h.1 0 q
    rw [if_pos ⟨q, h0⟩]
    rcases Nat.lt_or_ge 1 pn with q1 | q1
    · rw [if_pos ⟨q1, h.1 1 q1⟩]; omega
    · rw [if_neg (by omega)]; omega
  · rw [if_neg (by omega), if_neg (by omega)]; omega
theorem tau_t {pn n t : Nat} {pp : Nat → Nat} (hpn : pn ≤ 2) (h : ppO pn n pp) (ht : t < pn) : tau pn pp (pp t) = t ∧ tau pn pp (pp t + 1) = t + 1 := by
  unfold tau
  rcases Nat.lt_or_ge 1 pn with q | q
  · have h2 := h.2 (by omega)
    rcases Nat.eq_zero_or_pos t with e | e
    · subst e
      rw [if_neg (by omega), if_neg (by omega), if_pos (by omega), if_neg (by omega)]
      exact ⟨rfl, rfl⟩
    · obtain rfl : t = 1 := by omega
      rw [if_pos (by omega), if_neg (by omega), if_pos (by omega), if_pos (by omega)]
      exact ⟨rfl, rfl⟩
  · obtain rfl : t = 0 := by omega
    rw [if_neg (by omega), if_neg (by omega), if_pos (by omega), if_neg (by omega)]
    exact ⟨rfl, rfl⟩
theorem tau_s {pn p : Nat} {pp : Nat → Nat} (hpn : pn ≤ 2) (h : ∀ t, t < pn → p ≠ pp t) : tau pn pp (p + 1) = tau pn pp p := by
  unfold tau
  rcases Nat.lt_or_ge 0 pn with q | q
  · have h0 := h 0 q
    rcases Nat.lt_or_ge 1 pn with q1 | q1
    · have h1 := h 1 q1
      congr 1
      · congr 1; apply propext; omega
      · congr 1; apply propext; omega
    · rw [if_neg (show ¬ (1 < pn ∧ pp 1 < p + 1) by omega), if_neg (show ¬ (1 < pn ∧ pp 1 < p) by omega)]
      congr 1
      congr 1
      apply propext
      omega
  · rw [if_neg (by omega), if_neg (by omega), if_neg (by omega), if_neg (by omega)]
theorem pp_dec (pn : Nat) (pp : Nat → Nat) (hpn : pn ≤ 2) (p : Nat) : (∃ t, t < pn ∧ p = pp t) ∨ ∀ t, t < pn → p ≠ pp t := by
  by_cases h0 : 0 < pn ∧ p = pp 0
  · exact Or.inl ⟨0, h0.1, h0.2⟩
  · by_cases h1 : 1 < pn ∧ p = pp 1
    · exact Or.inl ⟨1, h1.1, h1.2⟩
    · refine Or.inr fun t ht e => ?_
      rcases Nat.eq_zero_or_pos t with q | q
      · subst q; exact h0 ⟨ht, e⟩
      · obtain rfl : t = 1 := by omega
        exact h1 ⟨ht, e⟩
section TZ
variable (m : mz_M) (cd cp pp : Nat → Nat) (Rm Ln Tb : Nat → Int) (pn cn f0 n : Nat)
def tY : Prop := m 153 18 = cn ∧ (m 154 0 = n ∧ n ≤ 10) ∧ (∀ i, i < cn → m 159 i = cd i ∧ cd i < 16 ∧ mc (m 154) (cd i) 1 = cp i ∧ cp i < 10) ∧ ppO pn n pp ∧ fwO (mW (m 154)) ∧ ∀ f i t, f < pn → i < cn → t < pn → Ln ((f * 6 + i) * 2 + t) = mW (m 154) (10 * pp f + cp i) + mW (m 154) (10 * cp i + pp t) + 10
abbrev tT : Type := (Nat → Int) × (Nat → Int) × (Nat → Int) × (Nat → Int) × (Nat → Int) × Int × Int
abbrev tMT (T : tT) : mz_M := tM m T.1 T.2.1 T.2.2.1 T.2.2.2.1 T.2.2.2.2.1 T.2.2.2.2.2.1 T.2.2.2.2.2.2
def qO (Q : tR) : Prop := Q.length ≤ 6 ∧ 0 ≤ ndL Ln f0 Q ∧ ndL Ln f0 Q < 100000
def rO' (R : tR) : Prop := 0 ≤ ndL Ln f0 R ∧ ndL Ln f0 R ≤ 2000 * R.length
def trI (T : tT) (R Q : tR) : Prop := (arO T.1 (fun x => cd x.1) R ∧ arO T.2.1 (fun x => pp x.2) R) ∧ (arO T.2.2.1 (fun x => cd x.1) Q ∧ arO T.2.2.2.1 (fun x => pp x.2) Q) ∧ (T.2.2.2.2.2.1 = Q.length ∧ T.2.2.2.2.2.2 = ndL Ln f0 Q) ∧ rmO Rm pn pp R T.2.2.2.2.1 ∧ qO Ln f0 Q
/-- what a method of the search is to do -/
def tSp (k d : Nat) : Prop := ∀ (R Q : tR) (T : tT), ndV pn cn R → cn ≤ R.length + (6 - d) → rO' Ln f0 R → trI cd pp Rm Ln pn f0 T R Q → ∃ T' : tT, sp k [mz_r 9 0 153, mz_i R.length, mz_i (pp (ndF f0 R)), mz_i (ndA R), mz_i (ndL Ln f0 R)] (tMT m T) none (tMT m T') ∧ trI cd pp Rm Ln pn f0 T' R (nxQ Rm Ln Tb pn cn f0 R Q)
end TZ
theorem qIn_used {Rm Ln Tb : Nat → Int} {pn cn f0 : Nat} {R Q : tR} {i : Nat} (h : ndA R / 2 ^ i % 2 = 1) : ∀ t, qIn Rm Ln Tb pn cn f0 R i Q t = Q := by
  intro t
  induction t with
  | zero => rfl
  | succ t ih =>
    show stQ Rm Ln Tb pn cn f0 R (qIn Rm Ln Tb pn cn f0 R i Q t) i t = Q
    rw [ih, stQ_no (Or.inl h)]
/-- a trip more: what is kept of it -/
theorem trI_push {cd pp : Nat → Nat} {Rm Ln Tb : Nat → Int} {pn cn f0 n i t : Nat} {R Q : tR} {c p bc bp rm : Nat → Int} {bm bl : Int} (hx : tX Rm Ln Tb pn cn f0) (hpp : ppO pn n pp) (hv : ndV pn cn ((i, t) :: R)) (h : trI cd pp Rm Ln pn f0 (c, p, bc, bp, rm, bm, bl) R Q) (hr : rm (pp t) ≠ 0) : trI cd pp Rm Ln pn f0 (vU c R.length (cd i), vU p R.length (pp t), bc, bp, vU rm (pp t) (rm (pp t) - 1), bm, bl) ((i, t) :: R) Q := by
  obtain ⟨⟨h1, h2⟩, h3, h4, ⟨h5, h6⟩, h7⟩ := h
  have o1 := ndV_ok hx.1 _ hv
  have o2 := ndV_ok hx.1 _ hv.2
  have hpn := hx.2.1
  have htp := hv.1.2.1
  refine ⟨⟨⟨vU_s, arO_congr (fun k hk => vU_n (by omega)) h1⟩, ⟨vU_s, arO_congr (fun k hk => vU_n (by omega)) h2⟩⟩, h3, h4, ⟨fun t' ht' => ?_, fun q hq hne => ?_⟩, h7⟩
  · have hr5 := h5 t' ht'
    have hpop : (pop (ndA ((i, t) :: R)) 16 : Int) = pop (ndA R) 16 + 1 := by
      rw [o1.2.1, o2.2.1]; simp only [List.length_cons]; omega
    have hB : ndB ((i, t) :: R) = if t = 0 then ndB R + 1 else ndB R := rfl
    simp only at hr5 ⊢
    by_cases e : t' = t
    · subst e
      rw [vU_s]
      unfold ctO at hr5 ⊢
      rw [hpop, hB]
      rcases Nat.eq_zero_or_pos t' with z | z
      · subst z
        rw [if_pos rfl] at hr5 ⊢
        rw [if_pos rfl]
        omega
      · rw [if_neg (by omega)] at hr5 ⊢
        rw [if_neg (by omega)]
        omega
    · have hne : pp t' ≠ pp t := by
        have h2 := hpp.2 (by omega)
        rcases Nat.eq_zero_or_pos t' with z | z
        · obtain rfl : t = 1 := by omega
          subst z; omega
        · obtain rfl : t = 0 := by omega
          obtain rfl : t' = 1 := by omega
          omega
      rw [vU_n hne]
      unfold ctO at hr5 ⊢
      rw [hpop, hB]
      rcases Nat.eq_zero_or_pos t' with z | z
      · subst z
        rw [if_pos rfl] at hr5 ⊢
        rw [if_neg (by omega)]
        omega
      · rw [if_neg (by omega)] at hr5 ⊢
        rw [if_pos (by omega)]
        omega
  · exact (vU_n (hne t htp)).trans (h6 q hq hne)
theorem trI_pop {cd pp : Nat → Nat} {Rm Ln Tb : Nat → Int} {pn cn f0 n i t : Nat} {R Q : tR} {c p bc bp rm : Nat → Int} {bm bl : Int} (hx : tX Rm Ln Tb pn cn f0) (hpp : ppO pn n pp) (hv : ndV pn cn ((i, t) :: R)) (h : trI cd pp Rm Ln pn f0 (c, p, bc, bp, rm, bm, bl) ((i, t) :: R) Q) : trI cd pp Rm Ln pn f0 (c, p, bc, bp, vU rm (pp t) (rm (pp t) + 1), bm, bl) R Q := by
  obtain ⟨⟨h1, h2⟩, h3, h4, ⟨h5, h6⟩, h7⟩ := h
  have o1 := ndV_ok hx.1 _ hv
  have o2 := ndV_ok hx.1 _ hv.2
  have hpn := hx.2.1
  have htp := hv.1.2.1
  refine ⟨⟨h1.2, h2.2⟩, h3, h4, ⟨fun t' ht' => ?_, fun q hq hne => ?_⟩, h7⟩
  · have hr5 := h5 t' ht'
    have hpop : (pop (ndA ((i, t) :: R)) 16 : Int) = pop (ndA R) 16 + 1 := by
      rw [o1.2.1, o2.2.1]; simp only [List.length_cons]; omega
    have hB : ndB ((i, t) :: R) = if t = 0 then ndB R + 1 else ndB R := rfl
    simp only at hr5 ⊢
    by_cases e : t' = t
    · subst e
      rw [vU_s]
      unfold ctO at hr5 ⊢
      rw [hpop, hB] at hr5
      rcases Nat.eq_zero_or_pos t' with z | z
      · subst z
        rw [if_pos rfl] at hr5 ⊢
        rw [if_pos rfl] at hr5
        omega
      · rw [if_neg (by omega)] at hr5 ⊢
        rw [if_neg (by omega)] at hr5
        omega
    · have hne : pp t' ≠ pp t := by
        have h2 := hpp.2 (by omega)
        rcases Nat.eq_zero_or_pos t' with z | z
        · obtain rfl : t = 1 := by omega
          subst z; omega
        · obtain rfl : t = 0 := by omega
          obtain rfl : t' = 1 := by omega
          omega
      rw [vU_n hne]
      unfold ctO at hr5 ⊢
      rw [hpop, hB] at hr5
      rcases Nat.eq_zero_or_pos t' with z | z
      · subst z
        rw [if_pos rfl] at hr5 ⊢
        rw [if_neg (by omega)] at hr5
        omega
      · rw [if_neg (by omega)] at hr5 ⊢
        rw [if_pos (by omega)] at hr5
        omega
  · exact (vU_n (hne t htp)).trans (h6 q hq hne)
