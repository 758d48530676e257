/-! Tours: the search that goes through all of them comes to what the table says. -/
abbrev tR : Type := List (Nat × Nat)
def ndA : tR → Nat
  | [] => 0
  | x :: R => ndA R + 2 ^ x.1
def ndB : tR → Nat
  | [] => 0
  | x :: R => if x.2 = 0 then ndB R + 1 else ndB R
def ndF (f0 : Nat) : tR → Nat
  | [] => f0
  | x :: _ => x.2
def ndL (Ln : Nat → Int) (f0 : Nat) : tR → Int
  | [] => 0
  | x :: R => ndL Ln f0 R + Ln ((ndF f0 R * 6 + x.1) * 2 + x.2)
def ndV (pn cn : Nat) : tR → Prop
  | [] => True
  | x :: R => (x.1 < cn ∧ x.2 < pn ∧ ¬ ndA R / 2 ^ x.1 % 2 = 1) ∧ ndV pn cn R
theorem pw3 : ∀ c, c < 7 → ∀ a, a < 2 ^ c → ∀ i, i < c → ¬ a / 2 ^ i % 2 = 1 → a + 2 ^ i < 2 ^ c := by decide +kernel
theorem pw4 : ∀ c, c < 7 → ∀ a, a < 2 ^ c → pop a 16 = c → ∀ i, i < c → a / 2 ^ i % 2 = 1 := by decide +kernel
theorem pw5 : ∀ c, c < 7 → 2 ^ c ≤ 64 := by decide +kernel
theorem pw6 : ∀ c, c < 7 → ∀ a, a < 2 ^ c → pop a 16 ≤ c := by decide +kernel
theorem ndV_ok {pn cn : Nat} (hcn : cn ≤ 6) : ∀ R, ndV pn cn R → ndA R < 2 ^ cn ∧ pop (ndA R) 16 = R.length ∧ ndB R ≤ R.length := by
  intro R
  induction R with
  | nil => intro _; exact ⟨Nat.two_pow_pos cn, rfl, Nat.le_refl _⟩
  | cons x R ih =>
    intro h
    obtain ⟨h1, h2, h3⟩ := ih h.2
    have h64 := pw5 cn (by omega)
    have hp := pw1 (ndA R) (by omega) x.1 (by have := h.1.1; omega) h.1.2.2
    refine ⟨pw3 cn (by omega) _ h1 _ h.1.1 h.1.2.2, ?_, ?_⟩
    · show pop (ndA R + 2 ^ x.1) 16 = R.length + 1
      rw [hp.2.2.1, h2]
    · show (if x.2 = 0 then ndB R + 1 else ndB R) ≤ R.length + 1
      split <;> omega
theorem ndV_len {pn cn : Nat} (hcn : cn ≤ 6) {R : tR} (h : ndV pn cn R) : R.length ≤ cn := by
  have h1 := ndV_ok hcn R h
  have := pw6 cn (by omega) _ h1.1
  omega
section TM
variable (Rm Ln Tb : Nat → Int) (pn cn f0 : Nat)
def tX : Prop := cn ≤ 6 ∧ pn ≤ 2 ∧ f0 < pn ∧ (∀ f i t, f < pn → i < cn → t < pn → 0 ≤ Ln ((f * 6 + i) * 2 + t) ∧ (Ln ((f * 6 + i) * 2 + t) < 1000000 → Ln ((f * 6 + i) * 2 + t) ≤ 2000)) ∧ (∀ a b f, a < 2 ^ cn → b ≤ pop a 16 → f < pn → Tb ((a * 7 + b) * 2 + f) = bwO (woF Rm Ln Tb a b f) pn cn) ∧ ∀ t, t < pn → Rm t ≤ 1000
def gV (R : tR) (i t : Nat) : Int := woF Rm Ln Tb (ndA R) (ndB R) (ndF f0 R) i t
def gD (R : tR) (i t : Nat) : Prop := ndA R / 2 ^ i % 2 = 1 ∨ Rm t ≤ (if t = 0 then (ndB R : Int) else pop (ndA R) 16 - ndB R) ∨ 1000000 ≤ Ln ((ndF f0 R * 6 + i) * 2 + t)
def wT (R : tR) : Int := bwO (gV Rm Ln Tb f0 R) pn cn
def sc (R : tR) : Int := 100000 * R.length - ndL Ln f0 R
def gx : Nat → tR → tR
  | 0, R => R
  | r + 1, R => if sbF (gV Rm Ln Tb f0 R) pn cn = -1 then R else gx r (((sbF (gV Rm Ln Tb f0 R) pn cn).toNat / 2, (sbF (gV Rm Ln Tb f0 R) pn cn).toNat % 2) :: R)
def nxQ (R Q : tR) : tR := if sc Ln f0 Q < sc Ln f0 R + wT Rm Ln Tb pn cn f0 R then gx Rm Ln Tb pn cn f0 (cn - R.length) R else Q
end TM
theorem mxl_ge {f : Nat → Int} {b : Int} : ∀ n, b ≤ mxl f b n ∧ ∀ t, t < n → f t ≤ mxl f b n := by
  intro n
  induction n with
  | zero => exact ⟨Int.le_refl _, fun t ht => absurd ht (Nat.not_lt_zero t)⟩
  | succ n ih =>
    unfold mxl
    refine ⟨by have := ih.1; omega, fun t ht => ?_⟩
    rcases Nat.lt_or_ge t n with q | q
    · have := ih.2 t q; omega
    · obtain rfl : t = n := by omega
      omega
theorem mxl_at {f : Nat → Int} {b : Int} : ∀ n, mxl f b n = b ∨ ∃ t, t < n ∧ f t = mxl f b n := by
  intro n
  induction n with
  | zero => exact Or.inl rfl
  | succ n ih =>
    unfold mxl
    rcases Int.le_total (f n) (mxl f b n) with q | q
    · rw [Int.max_eq_left q]
      exact ih.imp id fun ⟨t, h1, h2⟩ => ⟨t, by omega, h2⟩
    · rw [Int.max_eq_right q]
      exact Or.inr ⟨n, by omega, rfl⟩
theorem bwO_ge {g : Nat → Nat → Int} {pn : Nat} : ∀ n, 0 ≤ bwO g pn n ∧ ∀ i t, i < n → t < pn → g i t ≤ bwO g pn n := by
  intro n
  induction n with
  | zero => exact ⟨Int.le_refl _, fun i t hi => absurd hi (Nat.not_lt_zero i)⟩
  | succ n ih =>
    have h := mxl_ge (f := g n) (b := bwO g pn n) pn
    unfold bwO
    refine ⟨by have := ih.1; omega, fun i t hi ht => ?_⟩
    rcases Nat.lt_or_ge i n with q | q
    · have := ih.2 i t q ht; omega
    · obtain rfl : i = n := by omega
      exact h.2 t ht
theorem bwO_at {g : Nat → Nat → Int} {pn : Nat} : ∀ n, bwO g pn n = 0 ∨ ∃ i t, i < n ∧ t < pn ∧ g i t = bwO g pn n := by
  intro n
  induction n with
  | zero => exact Or.inl rfl
  | succ n ih =>
    unfold bwO
    rcases mxl_at (f := g n) (b := bwO g pn n) pn with h | ⟨t, h1, h2⟩
    · rw [h]
      exact ih.imp id fun ⟨i, t, h1, h2, h3⟩ => ⟨i, t, by omega, h2, h3⟩
    · exact Or.inr ⟨n, t, by omega, h1, h2⟩
/-- ahead of another one -/
def ahd (i t i1 t1 : Nat) : Prop := i < i1 ∨ i = i1 ∧ t < t1
theorem sbI_first {g : Nat → Nat → Int} {B : Int} {pn cn : Nat} : ∀ r i, i + r = cn → (∃ i1 t1, i ≤ i1 ∧ i1 < cn ∧ t1 < pn ∧ g i1 t1 = B) → ∃ i1 t1, i ≤ i1 ∧ i1 < cn ∧ t1 < pn ∧ g i1 t1 = B ∧ sbI g B pn cn r i = (i1 : Int) * 2 + t1 ∧ ∀ i' t', i ≤ i' → t' < pn → ahd i' t' i1 t1 → g i' t' ≠ B := by
  intro r
  induction r with
  | zero => intro i hi ⟨i1, t1, h1, h2, _⟩; omega
  | succ r ih =>
    intro i hi hx
    unfold sbI
    cases hf : fst1 (fun t => g i t = B) pn 0 with
    | some t =>
      have h1 := fst1_some hf
      refine ⟨i, t, Nat.le_refl _, by omega, by omega, h1.1, rfl, fun i' t' h2 h3 h4 => ?_⟩
      rcases h4 with q | ⟨q, q2⟩
      · omega
      · subst q; exact h1.2.2.2 t' (Nat.zero_le _) q2
    | none =>
      have h1 := fst1_none hf
      obtain ⟨i1, t1, h2, h3, h4, h5⟩ := hx
      have hne : i ≠ i1 := fun q => by subst q; exact h1 t1 (Nat.zero_le _) (by omega) h5
      obtain ⟨i2, t2, g1, g2, g3, g4, g5, g6⟩ := ih (i + 1) (by omega) ⟨i1, t1, by omega, h3, h4, h5⟩
      refine ⟨i2, t2, by omega, g2, g3, g4, g5, fun i' t' q1 q2 q3 => ?_⟩
      rcases Nat.lt_or_ge i i' with q | q
      · exact g6 i' t' q q2 q3
      · obtain rfl : i' = i := by omega
        exact h1 t' (Nat.zero_le _) (by omega)
theorem sbF_first {g : Nat → Nat → Int} {pn cn : Nat} (h : 0 < bwO g pn cn) : ∃ i1 t1, i1 < cn ∧ t1 < pn ∧ g i1 t1 = bwO g pn cn ∧ sbF g pn cn = (i1 : Int) * 2 + t1 ∧ ∀ i' t', t' < pn → ahd i' t' i1 t1 → g i' t' ≠ bwO g pn cn := by
  rcases bwO_at (g := g) (pn := pn) cn with q | ⟨i, t, h1, h2, h3⟩
  · omega
  · obtain ⟨i1, t1, _, g2, g3, g4, g5, g6⟩ := sbI_first (g := g) (B := bwO g pn cn) (pn := pn) (cn := cn) cn 0 (by omega) ⟨i, t, Nat.zero_le _, h1, h2, h3⟩
    exact ⟨i1, t1, g2, g3, g4, by unfold sbF; rw [if_pos h, g5], fun i' t' => g6 i' t' (Nat.zero_le _)⟩
section TM2
variable {Rm Ln Tb : Nat → Int} {pn cn f0 : Nat}
theorem ndF_lt (hx : tX Rm Ln Tb pn cn f0) {R : tR} (h : ndV pn cn R) : ndF f0 R < pn := by
  cases R with
  | nil => exact hx.2.2.1
  | cons x R => exact h.1.2.1
theorem gV_no {R : tR} {i t : Nat} (h : gD Rm Ln f0 R i t) : gV Rm Ln Tb f0 R i t = 0 := if_pos h
theorem gV_ok (hx : tX Rm Ln Tb pn cn f0) {R : tR} {i t : Nat} (hv : ndV pn cn R) (hi : i < cn) (ht : t < pn) (h : ¬ gD Rm Ln f0 R i t) : ndV pn cn ((i, t) :: R) ∧ gV Rm Ln Tb f0 R i t = 100000 - Ln ((ndF f0 R * 6 + i) * 2 + t) + wT Rm Ln Tb pn cn f0 ((i, t) :: R) ∧ (0 ≤ Ln ((ndF f0 R * 6 + i) * 2 + t) ∧ Ln ((ndF f0 R * 6 + i) * 2 + t) ≤ 2000) := by
  have hcn := hx.1
  have hb : ¬ ndA R / 2 ^ i % 2 = 1 := fun q => h (Or.inl q)
  have hv2 : ndV pn cn ((i, t) :: R) := ⟨⟨hi, ht, hb⟩, hv⟩
  have h1 := ndV_ok hcn _ hv2
  have hl := hx.2.2.2.1 (ndF f0 R) i t (ndF_lt hx hv) hi ht
  have hl2 : Ln ((ndF f0 R * 6 + i) * 2 + t) < 1000000 := by
    rcases Int.lt_or_le (Ln ((ndF f0 R * 6 + i) * 2 + t)) 1000000 with q | q
    · exact q
    · exact absurd (Or.inr (Or.inr q)) h
  refine ⟨hv2, ?_, hl.1, hl.2 hl2⟩
  have h' := h
  unfold gD at h'
  unfold gV woF
  rw [if_neg h']
  have e := hx.2.2.2.2.1 (ndA ((i, t) :: R)) (ndB ((i, t) :: R)) t h1.1 (by omega) ht
  show 100000 - _ + Tb ((ndA ((i, t) :: R) * 7 + ndB ((i, t) :: R)) * 2 + t) = _
  rw [e]
  rfl
theorem wT_0 (R : tR) : 0 ≤ wT Rm Ln Tb pn cn f0 R := (bwO_ge (g := gV Rm Ln Tb f0 R) (pn := pn) cn).1
theorem sc_child (Ln : Nat → Int) (f0 : Nat) (R : tR) (i t : Nat) : sc Ln f0 ((i, t) :: R) = sc Ln f0 R + 100000 - Ln ((ndF f0 R * 6 + i) * 2 + t) := by
  unfold sc
  show 100000 * ((R.length + 1 : Nat) : Int) - (ndL Ln f0 R + Ln ((ndF f0 R * 6 + i) * 2 + t)) = _
  omega
theorem sc_gV (hx : tX Rm Ln Tb pn cn f0) {R : tR} {i t : Nat} (hv : ndV pn cn R) (hi : i < cn) (ht : t < pn) (h : ¬ gD Rm Ln f0 R i t) : sc Ln f0 ((i, t) :: R) + wT Rm Ln Tb pn cn f0 ((i, t) :: R) = sc Ln f0 R + gV Rm Ln Tb f0 R i t ∧ 0 < gV Rm Ln Tb f0 R i t := by
  have h1 := gV_ok hx hv hi ht h
  have h2 := wT_0 (Rm := Rm) (Ln := Ln) (Tb := Tb) (pn := pn) (cn := cn) (f0 := f0) ((i, t) :: R)
  rw [sc_child]
  omega
theorem toN2 {i t : Nat} (ht : t < 2) : ((i : Int) * 2 + t).toNat / 2 = i ∧ ((i : Int) * 2 + t).toNat % 2 = t := by omega
theorem wT_full (hx : tX Rm Ln Tb pn cn f0) {R : tR} (hv : ndV pn cn R) (hl : cn ≤ R.length) : wT Rm Ln Tb pn cn f0 R = 0 := by
  have hcn := hx.1
  have h1 := ndV_ok hcn _ hv
  have h2 := ndV_len hcn hv
  rcases bwO_at (g := gV Rm Ln Tb f0 R) (pn := pn) cn with q | ⟨i, t, q1, q2, q3⟩
  · exact q
  · have hb := pw4 cn (by omega) _ h1.1 (by omega) i q1
    have := gV_no (Tb := Tb) (show gD Rm Ln f0 R i t from Or.inl hb)
    unfold wT
    rw [← q3, this]
theorem gx_sc (hx : tX Rm Ln Tb pn cn f0) : ∀ r (R : tR), ndV pn cn R → cn - R.length ≤ r → sc Ln f0 (gx Rm Ln Tb pn cn f0 r R) = sc Ln f0 R + wT Rm Ln Tb pn cn f0 R := by
  intro r
  induction r with
  | zero =>
    intro R hv hr
    rw [wT_full hx hv (by omega)]
    show sc Ln f0 R = _
    omega
  | succ r ih =>
    intro R hv hr
    unfold gx
    by_cases h0 : 0 < wT Rm Ln Tb pn cn f0 R
    · obtain ⟨i, t, h1, h2, h3, h4, _⟩ := sbF_first (g := gV Rm Ln Tb f0 R) h0
      have hpn := hx.2.1
      have hn := toN2 (i := i) (t := t) (by omega)
      rw [if_neg (by omega), h4, hn.1, hn.2]
      have hg : ¬ gD Rm Ln f0 R i t := fun q => by
        have := gV_no (Tb := Tb) q
        unfold wT at h0
        omega
      have h5 := gV_ok hx hv h1 h2 hg
      have h6 := sc_gV hx hv h1 h2 hg
      rw [ih _ h5.1 (by simp only [List.length_cons]; omega), h6.1, h3]
      rfl
    · have := wT_0 (Rm := Rm) (Ln := Ln) (Tb := Tb) (pn := pn) (cn := cn) (f0 := f0) R
      rw [if_pos (by unfold sbF; rw [if_neg (show ¬ 0 < bwO (gV Rm Ln Tb f0 R) pn cn from h0)]), show wT Rm Ln Tb pn cn f0 R = 0 by omega]
      omega
end TM2
section TM3
variable (Rm Ln Tb : Nat → Int) (pn cn f0 : Nat)
def stQ (R Q : tR) (i t : Nat) : tR := if ndA R / 2 ^ i % 2 = 1 ∨ Rm t ≤ (if t = 0 then (ndB R : Int) else pop (ndA R) 16 - ndB R) ∨ 1000000 ≤ Ln ((ndF f0 R * 6 + i) * 2 + t) then Q else nxQ Rm Ln Tb pn cn f0 ((i, t) :: R) Q
def qIn (R : tR) (i : Nat) (Q : tR) : Nat → tR
  | 0 => Q
  | t + 1 => stQ Rm Ln Tb pn cn f0 R (qIn R i Q t) i t
def qOut (R Q : tR) : Nat → tR
  | 0 => Q
  | i + 1 => qIn Rm Ln Tb pn cn f0 R i (qOut R Q i) pn
end TM3
section TM4
variable {Rm Ln Tb : Nat → Int} {pn cn f0 : Nat}
theorem stQ_no {R Q : tR} {i t : Nat} (h : gD Rm Ln f0 R i t) : stQ Rm Ln Tb pn cn f0 R Q i t = Q := if_pos h
theorem stQ_ok {R Q : tR} {i t : Nat} (h : ¬ gD Rm Ln f0 R i t) : stQ Rm Ln Tb pn cn f0 R Q i t = nxQ Rm Ln Tb pn cn f0 ((i, t) :: R) Q := if_neg h
/-- what stands when some are gone through: M is the most so far -/
def jQ (Rm Ln Tb : Nat → Int) (pn cn f0 : Nat) (R Q : tR) (M : Int) (i t : Nat) (Qc : tR) : Prop :=
  0 ≤ M ∧ (∀ i' t', t' < pn → ahd i' t' i t → gV Rm Ln Tb f0 R i' t' ≤ M) ∧ (M = 0 → Qc = if sc Ln f0 Q < sc Ln f0 R then R else Q) ∧
  (0 < M → (sc Ln f0 Q < sc Ln f0 R + M → ∃ i1 t1, i1 < cn ∧ t1 < pn ∧ gV Rm Ln Tb f0 R i1 t1 = M ∧ (∀ i' t', t' < pn → ahd i' t' i1 t1 → gV Rm Ln Tb f0 R i' t' < M) ∧ Qc = gx Rm Ln Tb pn cn f0 (cn - R.length - 1) ((i1, t1) :: R)) ∧ (¬ sc Ln f0 Q < sc Ln f0 R + M → Qc = Q))
theorem jQ_step (hx : tX Rm Ln Tb pn cn f0) {R Q Qc : tR} {M : Int} {i t : Nat} (hv : ndV pn cn R) (hi : i < cn) (ht : t < pn) (h : jQ Rm Ln Tb pn cn f0 R Q M i t Qc) : jQ Rm Ln Tb pn cn f0 R Q (max M (gV Rm Ln Tb f0 R i t)) i (t + 1) (stQ Rm Ln Tb pn cn f0 R Qc i t) := by
  obtain ⟨h0, hle, h1, h2⟩ := h
  have hall : ∀ i' t', t' < pn → ahd i' t' i (t + 1) → gV Rm Ln Tb f0 R i' t' ≤ max M (gV Rm Ln Tb f0 R i t) := fun i' t' ht' ha => by
    by_cases e : i' = i ∧ t' = t
    · rw [e.1, e.2]; omega
    · have := hle i' t' ht' (by unfold ahd at ha ⊢; omega)
      omega
  by_cases hg : gD Rm Ln f0 R i t
  · have hz := gV_no (Tb := Tb) hg
    rw [stQ_no hg, hz, Int.max_eq_left h0]
    rw [hz, Int.max_eq_left h0] at hall
    exact ⟨h0, hall, h1, h2⟩
  · have hs := sc_gV hx hv hi ht hg
    have hok := gV_ok hx hv hi ht hg
    have hlc := ndV_len hx.1 hok.1
    have hgx : ∀ x : Nat × Nat, ndV pn cn (x :: R) → sc Ln f0 (gx Rm Ln Tb pn cn f0 (cn - R.length - 1) (x :: R)) = sc Ln f0 (x :: R) + wT Rm Ln Tb pn cn f0 (x :: R) := fun x hvx => gx_sc hx _ _ hvx (by simp only [List.length_cons]; omega)
    rw [stQ_ok hg]
    unfold nxQ
    rw [hs.1, show cn - ((i, t) :: R).length = cn - R.length - 1 by simp only [List.length_cons]; omega]
    generalize hG : gV Rm Ln Tb f0 R i t = g at *
    have scM : 0 < M → sc Ln f0 Q < sc Ln f0 R + M → sc Ln f0 Qc = sc Ln f0 R + M := fun hM hq => by
      obtain ⟨i1, t1, q1, q2, q3, q4, q5⟩ := (h2 hM).1 hq
      have hg1 : ¬ gD Rm Ln f0 R i1 t1 := fun q => by have := gV_no (Tb := Tb) q; omega
      have hok1 := gV_ok hx hv q1 q2 hg1
      rw [q5, hgx _ hok1.1, (sc_gV hx hv q1 q2 hg1).1, q3]
    by_cases hm : g ≤ M
    · rw [Int.max_eq_left hm] at hall ⊢
      have hM : 0 < M := by omega
      have hno : ¬ sc Ln f0 Qc < sc Ln f0 R + g := by
        by_cases hq : sc Ln f0 Q < sc Ln f0 R + M
        · rw [scM hM hq]; omega
        · rw [(h2 hM).2 hq]; omega
      rw [if_neg hno]
      exact ⟨h0, hall, h1, h2⟩
    · rw [Int.max_eq_right (by omega)] at hall ⊢
      refine ⟨by omega, hall, fun q => by omega, fun _ => ⟨fun hq => ?_, fun hq => ?_⟩⟩
      · have hlt : sc Ln f0 Qc < sc Ln f0 R + g := by
          rcases Int.lt_or_le 0 M with hM | hM
          · by_cases hq2 : sc Ln f0 Q < sc Ln f0 R + M
            · rw [scM hM hq2]; omega
            · rw [(h2 hM).2 hq2]; exact hq
          · rw [h1 (by omega)]
            split
            · omega
            · exact hq
        rw [if_pos hlt]
        exact ⟨i, t, hi, ht, hG, fun i' t' ht' ha => by have := hle i' t' ht' ha; omega, rfl⟩
      · have he : Qc = Q := by
          rcases Int.lt_or_le 0 M with hM | hM
          · exact (h2 hM).2 (by omega)
          · rw [h1 (by omega), if_neg (by omega)]
        rw [he, if_neg hq]
theorem jQ_in (hx : tX Rm Ln Tb pn cn f0) {R Q Qc : tR} {B : Int} {i : Nat} (hv : ndV pn cn R) (hi : i < cn) (h : jQ Rm Ln Tb pn cn f0 R Q B i 0 Qc) : ∀ t, t ≤ pn → jQ Rm Ln Tb pn cn f0 R Q (mxl (gV Rm Ln Tb f0 R i) B t) i t (qIn Rm Ln Tb pn cn f0 R i Qc t) := by
  intro t
  induction t with
  | zero => intro _; exact h
  | succ t ih => intro ht; exact jQ_step hx hv hi (by omega) (ih (by omega))
theorem jQ_nx {R Q Qc : tR} {M : Int} {i : Nat} (h : jQ Rm Ln Tb pn cn f0 R Q M i pn Qc) : jQ Rm Ln Tb pn cn f0 R Q M (i + 1) 0 Qc := by
  refine ⟨h.1, fun i' t' ht' ha => h.2.1 i' t' ht' ?_, h.2.2⟩
  unfold ahd at ha ⊢
  omega
theorem q_fin (hx : tX Rm Ln Tb pn cn f0) {R Q : tR} (hv : ndV pn cn R) : qOut Rm Ln Tb pn cn f0 R (if sc Ln f0 Q < sc Ln f0 R then R else Q) cn = nxQ Rm Ln Tb pn cn f0 R Q := by
  have h : ∀ i, i ≤ cn → jQ Rm Ln Tb pn cn f0 R Q (bwO (gV Rm Ln Tb f0 R) pn i) i 0 (qOut Rm Ln Tb pn cn f0 R (if sc Ln f0 Q < sc Ln f0 R then R else Q) i) := by
    intro i
    induction i with
    | zero => intro _; exact ⟨Int.le_refl _, fun i' t' _ ha => by unfold ahd at ha; omega, fun _ => rfl, fun q => absurd q (Int.lt_irrefl 0)⟩
    | succ i ih => intro hi; exact jQ_nx (jQ_in hx hv (by omega) (ih (by omega)) pn (Nat.le_refl _))
  obtain ⟨h0, hle, h1, h2⟩ := h cn (Nat.le_refl _)
  have hlen := ndV_len hx.1 hv
  unfold nxQ
  have hw : bwO (gV Rm Ln Tb f0 R) pn cn = wT Rm Ln Tb pn cn f0 R := rfl
  rw [hw] at h0 hle h1 h2
  rcases Int.lt_or_le 0 (wT Rm Ln Tb pn cn f0 R) with hM | hM
  · by_cases hq : sc Ln f0 Q < sc Ln f0 R + wT Rm Ln Tb pn cn f0 R
    · obtain ⟨i1, t1, q1, q2, q3, q4, q5⟩ := (h2 hM).1 hq
      rw [if_pos hq, q5]
      obtain ⟨i2, t2, g1, g2, g3, g4, g5⟩ := sbF_first (g := gV Rm Ln Tb f0 R) (pn := pn) (cn := cn) (by rw [hw]; exact hM)
      have e : i1 = i2 ∧ t1 = t2 := by
        rw [hw] at g3 g5
        have a1 : ¬ ahd i2 t2 i1 t1 := fun q => by have := q4 i2 t2 g2 q; omega
        have a2 : ¬ ahd i1 t1 i2 t2 := fun q => g5 i1 t1 q2 q q3
        unfold ahd at a1 a2
        omega
      obtain ⟨rfl, rfl⟩ := e
      have hg1 : ¬ gD Rm Ln f0 R i1 t1 := fun q => by have := gV_no (Tb := Tb) q; omega
      have hok1 := gV_ok hx hv q1 q2 hg1
      have hl1 := ndV_len hx.1 hok1.1
      simp only [List.length_cons] at hl1
      have hpn := hx.2.1
      have hn := toN2 (i := i1) (t := t1) (by omega)
      rw [show cn - R.length = (cn - R.length - 1) + 1 by omega]
      show _ = gx Rm Ln Tb pn cn f0 ((cn - R.length - 1) + 1) R
      rw [gx, if_neg (by omega), g4, hn.1, hn.2]
      rfl
    · rw [if_neg hq, (h2 hM).2 hq]
  · have hz : wT Rm Ln Tb pn cn f0 R = 0 := by omega
    rw [h1 hz, hz, Int.add_zero]
    have e : gx Rm Ln Tb pn cn f0 (cn - R.length) R = R := by
      cases hk : cn - R.length with
      | zero => rfl
      | succ k =>
        unfold gx
        rw [if_pos (by unfold sbF; rw [if_neg (show ¬ 0 < bwO (gV Rm Ln Tb f0 R) pn cn by rw [hw]; omega)])]
    rw [e]
end TM4
