/-! Patrols: the class goes through the sets of places with value alone, the model through all. -/
theorem n_and_rc (a b c : Nat) : a &&& b &&& c = a &&& c &&& b := by rw [Nat.and_assoc, Nat.and_comm b c, ← Nat.and_assoc]
theorem pw2b : ∀ l, l < 10 → ∀ p, p < 10 → (2 ^ l / 2 ^ p % 2 = 1 ↔ p = l) := by decide +kernel
theorem pw2l : ∀ l, l < 10 → 2 ^ l < 2147483648 := by decide +kernel
theorem leR_b {s l p : Nat} (hl : l < 10) (hp : p < 10) : leR s l / 2 ^ p % 2 = 1 ↔ (s / 2 ^ p % 2 = 1 ∧ p ≠ l) := by
  unfold leR
  rw [adn_bit (by omega) (pw2l l hl)]
  have := pw2b l hl p hp
  by_cases q : s / 2 ^ p % 2 = 1 ∧ ¬ 2 ^ l / 2 ^ p % 2 = 1
  · rw [if_pos q]
    exact ⟨fun _ => ⟨q.1, fun y => q.2 (this.mpr y)⟩, fun _ => rfl⟩
  · rw [if_neg q]
    exact ⟨fun y => absurd y (by omega), fun y => absurd ⟨y.1, fun z => y.2 (this.mp z)⟩ q⟩
theorem leR_lt {s l : Nat} (hl : l < 10) (h : s / 2 ^ l % 2 = 1) : leR s l < s := by
  have h1 := adn_le s (2 ^ l)
  have h2 := leR_b (s := s) hl hl
  rcases Nat.lt_or_eq_of_le h1 with q | q
  · exact q
  · have e : leR s l = s := q
    rw [e] at h2
    exact absurd rfl (h2.mp h).2
theorem bit_ex : ∀ (n r : Nat), r ≠ 0 → r < 2 ^ n → ∃ p, p < n ∧ r / 2 ^ p % 2 = 1 := by
  intro n
  induction n with
  | zero => intro r h h2; omega
  | succ n ih =>
    intro r h h2
    rcases Nat.lt_or_ge r (2 ^ n) with q | q
    · obtain ⟨p, p1, p2⟩ := ih r h q
      exact ⟨p, by omega, p2⟩
    · refine ⟨n, by omega, ?_⟩
      rw [Nat.pow_succ] at h2
      have : r / 2 ^ n = 1 := by
        apply Nat.div_eq_of_lt_le <;> omega
      rw [this]
theorem leR_cm (s a b : Nat) : leR (leR s a) b = leR (leR s b) a := by
  unfold leR adn
  exact n_and_rc _ _ _
theorem adn_leR {s l v : Nat} (h : adn s v = 0) : adn (leR s l) v = 0 := by
  have : adn (leR s l) v = adn (adn s v) (2 ^ l) := by
    unfold leR adn
    exact n_and_rc _ _ _
  rw [this, h]
  unfold adn
  exact Nat.zero_and _
theorem mnl_le {P : Nat → Prop} [DecidablePred P] {f : Nat → Int} {b : Int} : ∀ n, mnl P f b n ≤ b ∧ ∀ i, i < n → P i → mnl P f b n ≤ f i := by
  intro n
  induction n with
  | zero => exact ⟨Int.le_refl _, fun i hi => absurd hi (Nat.not_lt_zero i)⟩
  | succ n ih =>
    unfold mnl
    split
    · refine ⟨by have := ih.1; omega, fun i hi hp => ?_⟩
      rcases Nat.lt_or_ge i n with q | q
      · have := ih.2 i q hp; omega
      · obtain rfl : i = n := by omega
        omega
    · rename_i hn
      refine ⟨ih.1, fun i hi hp => ?_⟩
      rcases Nat.lt_or_ge i n with q | q
      · exact ih.2 i q hp
      · obtain rfl : i = n := by omega
        exact absurd hp hn
theorem mnl_at {P : Nat → Prop} [DecidablePred P] {f : Nat → Int} {b : Int} : ∀ n, mnl P f b n = b ∨ ∃ i, i < n ∧ P i ∧ mnl P f b n = f i := by
  intro n
  induction n with
  | zero => exact Or.inl rfl
  | succ n ih =>
    unfold mnl
    split
    · rename_i hn
      rcases Int.le_total (mnl P f b n) (f n) with q | q
      · rw [Int.min_eq_left q]
        exact ih.imp id fun ⟨i, h1, h2⟩ => ⟨i, by omega, h2⟩
      · rw [Int.min_eq_right q]
        exact Or.inr ⟨n, by omega, hn, rfl⟩
    · exact ih.imp id fun ⟨i, h1, h2⟩ => ⟨i, by omega, h2⟩
/-- the length and the value of a set, as the model's table has them -/
def lnS (T : Nat → Int) (s n : Nat) : Int := mnl (fun l => s / 2 ^ l % 2 = 1) (fun l => T (10 * s + l)) 1000000 n
def vlS (V : Nat → Int) (s n : Nat) : Int := sm (fun j => if s / 2 ^ j % 2 = 1 then V j else 0) n
section PT
variable {W : Nat → Int} {st n : Nat}
theorem leM_low {S T : Nat → Int} {s l : Nat} (hn : n ≤ 10) (hl : l < 10) (hb : s / 2 ^ l % 2 = 1) (h : ∀ i, i < 10 * s → S i = T i) : leM S W st n s l = leM T W st n s l := by
  have := leR_lt hl hb
  unfold leM
  rw [mnl_congr (fun p hp _ => by rw [h (10 * leR s l + p) (by omega)])]
theorem leC_low {S T : Nat → Int} {s l : Nat} (hn : n ≤ 10) (hl : l < 10) (hb : s / 2 ^ l % 2 = 1) (h : ∀ i, i < 10 * s → S i = T i) : leC S W st n s l = leC T W st n s l := by
  have := leR_lt hl hb
  unfold leC
  rw [mnl_congr (fun p hp _ => by rw [h (10 * leR s l + p) (by omega)])]
def gdM (W : Nat → Int) (st n : Nat) (T : Nat → Int) (K : Nat) : Prop := ∀ s, 1 ≤ s → s < K → ∀ l, l < n → s / 2 ^ l % 2 = 1 → T (10 * s + l) = leM T W st n s l
theorem leM_cap {S : Nat → Int} {s l : Nat} : leM S W st n s l ≤ 1000000 := Int.min_le_right _ _
/-- what an entry is -/
theorem leM_at {T : Nat → Int} {s l : Nat} (h : leR s l ≠ 0) : leM T W st n s l = 1000000 ∨ ∃ p, p < n ∧ leR s l / 2 ^ p % 2 = 1 ∧ leM T W st n s l = T (10 * leR s l + p) + W (10 * p + l) + 5 := by
  unfold leM
  rw [if_neg h]
  rcases mnl_at (P := fun p => leR s l / 2 ^ p % 2 = 1) (f := fun p => T (10 * leR s l + p) + W (10 * p + l) + 5) (b := 1000000) n with q | ⟨p, p1, p2, p3⟩
  · rw [q]; exact Or.inl (Int.min_self _)
  · have := (mnl_le (P := fun p => leR s l / 2 ^ p % 2 = 1) (f := fun p => T (10 * leR s l + p) + W (10 * p + l) + 5) (b := 1000000) n).1
    rw [Int.min_eq_left this]
    exact Or.inr ⟨p, p1, p2, p3⟩
theorem leM_le {T : Nat → Int} {s l p : Nat} (hp : p < n) (hb : leR s l / 2 ^ p % 2 = 1) : leM T W st n s l ≤ T (10 * leR s l + p) + W (10 * p + l) + 5 := by
  have := (mnl_le (P := fun p => leR s l / 2 ^ p % 2 = 1) (f := fun p => T (10 * leR s l + p) + W (10 * p + l) + 5) (b := if leR s l = 0 then W (10 * st + l) + 5 else 1000000) n).2 p hp hb
  unfold leM
  exact Int.le_trans (Int.min_le_left _ _) this
theorem leM_0 {T : Nat → Int} {s l : Nat} (h : leR s l = 0) : leM T W st n s l = min (W (10 * st + l) + 5) 1000000 := by
  unfold leM
  rw [if_pos h]
  rcases mnl_at (P := fun p => leR s l / 2 ^ p % 2 = 1) (f := fun p => T (10 * leR s l + p) + W (10 * p + l) + 5) (b := W (10 * st + l) + 5) n with q | ⟨p, p1, p2, p3⟩
  · rw [q]
  · rw [h] at p2
    rw [Nat.zero_div] at p2
    omega
theorem gd_mono (hn : n ≤ 10) (hst : st < 10) (hW : fwO W) (h3 : ∀ i v j, i < 10 → v < 10 → j < 10 → W (10 * i + j) ≤ W (10 * i + v) + W (10 * v + j)) {T : Nat → Int} {K : Nat} (hg : gdM W st n T K) : ∀ (k s x : Nat), s ≤ k → s < K → x < n → s / 2 ^ x % 2 = 1 → leR s x ≠ 0 → ∀ l, l < n → s / 2 ^ l % 2 = 1 → l ≠ x → T (10 * leR s x + l) ≤ T (10 * s + l) := by
  intro k
  induction k with
  | zero =>
    intro s x hs _ _ hb
    obtain rfl : s = 0 := by omega
    rw [Nat.zero_div] at hb
    omega
  | succ k ih =>
    intro s x hs hK hx hb h0 l hl hbl hlx
    have s0 : 1 ≤ s := by
      rcases Nat.eq_zero_or_pos s with q | q
      · subst q; rw [Nat.zero_div] at hb; omega
      · exact q
    have ltx := leR_lt (show x < 10 by omega) hb
    have ltl := leR_lt (show l < 10 by omega) hbl
    have e1 := hg s s0 hK l hl hbl
    have bl1 : leR s x / 2 ^ l % 2 = 1 := (leR_b (by omega) (by omega)).mpr ⟨hbl, hlx⟩
    have bx1 : leR s l / 2 ^ x % 2 = 1 := (leR_b (by omega) (by omega)).mpr ⟨hb, fun q => hlx q.symm⟩
    have e2 := hg (leR s x) (by omega) (by omega) l hl bl1
    have cm := leR_cm s x l
    have r0 : leR s l ≠ 0 := fun q => by rw [q, Nat.zero_div] at bx1; omega
    rw [e1, e2]
    rcases leM_at (W := W) (st := st) (n := n) (T := T) r0 with q | ⟨p, p1, p2, p3⟩
    · rw [q]; exact leM_cap
    · rw [p3]
      have w1 := hW (10 * p + l) (by omega)
      by_cases y : p = x
      · subst y
        have ltr := leR_lt (show p < 10 by omega) bx1
        have e3 := hg (leR s l) (by omega) (by omega) p p1 bx1
        by_cases z : leR (leR s l) p = 0
        · rw [leM_0 (by rw [cm]; exact z), e3, leM_0 z]
          have := h3 st p l hst (by omega) (by omega)
          omega
        · rcases leM_at (W := W) (st := st) (n := n) (T := T) z with q | ⟨y, y1, y2, y3⟩
          · rw [e3, q]
            have := leM_cap (S := T) (W := W) (st := st) (n := n) (s := leR s p) (l := l)
            omega
          · rw [e3, y3]
            have le := leM_le (W := W) (st := st) (T := T) (s := leR s p) (l := l) y1 (by rw [cm]; exact y2)
            rw [cm] at le
            have := h3 y p l (by omega) (by omega) (by omega)
            omega
      · have bp : leR (leR s x) l / 2 ^ p % 2 = 1 := by
          rw [cm]
          exact (leR_b (by omega) (by omega)).mpr ⟨p2, y⟩
        have le := leM_le (W := W) (st := st) (T := T) (s := leR s x) (l := l) p1 bp
        have z : leR (leR s l) x ≠ 0 := fun q => by rw [cm, q, Nat.zero_div] at bp; omega
        have i1 := ih (leR s l) x (by omega) (by omega) hx bx1 z p p1 p2 y
        rw [cm] at le
        omega
theorem ln_mono (hn : n ≤ 10) (hst : st < 10) (hW : fwO W) (h3 : ∀ i v j, i < 10 → v < 10 → j < 10 → W (10 * i + j) ≤ W (10 * i + v) + W (10 * v + j)) {T : Nat → Int} {K s x : Nat} (hg : gdM W st n T K) (hK : s < K) (hx : x < n) (hb : s / 2 ^ x % 2 = 1) (h0 : leR s x ≠ 0) : lnS T (leR s x) n ≤ lnS T s n := by
  have s0 : 1 ≤ s := by
    rcases Nat.eq_zero_or_pos s with q | q
    · subst q; rw [Nat.zero_div] at hb; omega
    · exact q
  have L := mnl_le (P := fun l => leR s x / 2 ^ l % 2 = 1) (f := fun l => T (10 * leR s x + l)) (b := 1000000) n
  unfold lnS
  rcases mnl_at (P := fun l => s / 2 ^ l % 2 = 1) (f := fun l => T (10 * s + l)) (b := 1000000) n with q | ⟨l, l1, l2, q⟩
  · rw [q]; exact L.1
  · rw [q]
    by_cases y : l = x
    · subst y
      have e1 := hg s s0 hK l hx hb
      show _ ≤ T (10 * s + l)
      rw [e1]
      rcases leM_at (W := W) (st := st) (n := n) (T := T) h0 with w | ⟨p, p1, p2, p3⟩
      · rw [w]; exact L.1
      · rw [p3]
        have := L.2 p p1 p2
        have := hW (10 * p + l) (by omega)
        omega
    · have := L.2 l l1 ((leR_b (by omega) (by omega)).mpr ⟨l2, y⟩)
      have g := gd_mono hn hst hW h3 hg s s x (Nat.le_refl _) hK hx hb h0 l l1 l2 y
      exact Int.le_trans this g
theorem vl_rm {V : Nat → Int} {s x : Nat} (hn : n ≤ 10) (hx : x < n) (hb : s / 2 ^ x % 2 = 1) : vlS V s n = vlS V (leR s x) n + V x := by
  unfold vlS
  rw [sm_one (f := fun j => if leR s x / 2 ^ j % 2 = 1 then V j else 0) (g := fun j => if s / 2 ^ j % 2 = 1 then V j else 0) (n := n) (h0 := x) (c := V x) (fun i hi => ?_), if_pos hx]
  have := leR_b (s := s) (l := x) (p := i) (by omega) (by omega)
  by_cases y : i = x
  · subst y
    rw [if_pos hb, if_neg (fun z => (this.mp z).2 rfl), if_pos rfl]; omega
  · by_cases z : s / 2 ^ i % 2 = 1
    · rw [if_pos z, if_pos (this.mpr ⟨z, y⟩), if_neg y]; omega
    · rw [if_neg z, if_neg (fun w => z (this.mp w).1), if_neg y]; omega
/-- a set comes to a set of places with value that is as good -/
theorem pv_sub (hn : n ≤ 10) (hst : st < 10) (hW : fwO W) (h3 : ∀ i v j, i < 10 → v < 10 → j < 10 → W (10 * i + j) ≤ W (10 * i + v) + W (10 * v + j)) {T V : Nat → Int} {K v : Nat} (hv2 : v < 2147483648) (hK : K ≤ 2 ^ n) (hg : gdM W st n T K) (hV : ∀ j, j < n → ¬ v / 2 ^ j % 2 = 1 → V j = 0) : ∀ (k s : Nat), s ≤ k → 1 ≤ s → s < K → vlS V s n = 0 ∨ ∃ s', 1 ≤ s' ∧ s' ≤ s ∧ adn s' v = 0 ∧ vlS V s' n = vlS V s n ∧ lnS T s' n ≤ lnS T s n := by
  intro k
  induction k with
  | zero => intro s h1 h2; omega
  | succ k ih =>
    intro s hs h1 hsK
    by_cases q : adn s v = 0
    · exact Or.inr ⟨s, h1, Nat.le_refl _, q, rfl, Int.le_refl _⟩
    · have := adn_le s v
      obtain ⟨x, x1, x2⟩ := bit_ex n (adn s v) q (by omega)
      rw [adn_bit (by omega) hv2] at x2
      have hb : s / 2 ^ x % 2 = 1 ∧ ¬ v / 2 ^ x % 2 = 1 := by
        by_cases y : s / 2 ^ x % 2 = 1 ∧ ¬ v / 2 ^ x % 2 = 1
        · exact y
        · rw [if_neg y] at x2; omega
      have e := vl_rm (V := V) hn x1 hb.1
      rw [hV x x1 hb.2, Int.add_zero] at e
      have lt := leR_lt (show x < 10 by omega) hb.1
      by_cases z : leR s x = 0
      · left
        rw [e, z]
        unfold vlS
        have : sm (fun j => if 0 / 2 ^ j % 2 = 1 then V j else 0) n = sm (fun _ => 0) n := sm_congr fun j _ => by rw [Nat.zero_div, if_neg (by omega)]
        rw [this, sm_const]; omega
      · have mono := ln_mono hn hst hW h3 hg hsK x1 hb.1 z
        rcases ih (leR s x) (by omega) (by omega) (by omega) with w | ⟨s', a1, a2, a3, a4, a5⟩
        · exact Or.inl (by rw [e]; exact w)
        · exact Or.inr ⟨s', a1, by omega, a3, by rw [e]; exact a4, Int.le_trans a5 mono⟩
/-- what a step of the tables comes to -/
theorem mcsF_at {V S : Nat → Int} {s : Nat} (hn : n ≤ 10) : ∀ j, j ≤ n → (∀ i, i < 10 * s → (mcsF V W st n s S j).1 i = S i) ∧ (∀ b, b < j → s / 2 ^ b % 2 = 1 → (mcsF V W st n s S j).1 (10 * s + b) = leM S W st n s b) ∧ (mcsF V W st n s S j).2.1 = mnl (fun l => s / 2 ^ l % 2 = 1) (fun l => leM S W st n s l) 1000000 j ∧ (mcsF V W st n s S j).2.2 = vlS V s j := by
  intro j
  induction j with
  | zero => intro _; exact ⟨fun _ _ => rfl, fun b hb => absurd hb (Nat.not_lt_zero b), rfl, rfl⟩
  | succ j ih =>
    intro hj
    obtain ⟨i1, i2, i3, i4⟩ := ih (by omega)
    unfold mcsF vlS
    rw [sm, mnl]
    by_cases q : s / 2 ^ j % 2 = 1
    · have e := leM_low (W := W) (st := st) (s := s) hn (show j < 10 by omega) q i1
      rw [if_pos q, if_pos q, if_pos q, e]
      refine ⟨fun i hi => ?_, fun b hb hbit => ?_, ?_, ?_⟩
      · show vU _ _ _ i = _
        rw [vU_n (by omega)]; exact i1 i hi
      · show vU _ _ _ (10 * s + b) = _
        by_cases y : b = j
        · subst y; rw [vU_s]
        · rw [vU_n (by omega)]; exact i2 b (by omega) hbit
      · show min _ _ = _
        rw [i3]
      · show _ + _ = _
        rw [i4]; rfl
    · rw [if_neg q, if_neg q, if_neg q]
      refine ⟨i1, fun b hb hbit => ?_, i3, ?_⟩
      · by_cases y : b = j
        · subst y; exact absurd hbit q
        · exact i2 b (by omega) hbit
      · rw [Int.add_zero]; exact i4
theorem csF_at {V S : Nat → Int} {s : Nat} (hn : n ≤ 10) : ∀ j, j ≤ n → (∀ i, i < 10 * s → (csF V W st n s S j).1 i = S i) ∧ (∀ b, b < j → s / 2 ^ b % 2 = 1 → (csF V W st n s S j).1 (10 * s + b) = leC S W st n s b) ∧ (csF V W st n s S j).2.1 = mnl (fun l => s / 2 ^ l % 2 = 1) (fun l => leC S W st n s l) 1000000 j ∧ (csF V W st n s S j).2.2 = vlS V s j := by
  intro j
  induction j with
  | zero => intro _; exact ⟨fun _ _ => rfl, fun b hb => absurd hb (Nat.not_lt_zero b), rfl, rfl⟩
  | succ j ih =>
    intro hj
    obtain ⟨i1, i2, i3, i4⟩ := ih (by omega)
    unfold csF vlS
    rw [sm, mnl]
    by_cases q : s / 2 ^ j % 2 = 1
    · have e := leC_low (W := W) (st := st) (s := s) hn (show j < 10 by omega) q i1
      rw [if_pos q, if_pos q, if_pos q, e]
      refine ⟨fun i hi => ?_, fun b hb hbit => ?_, ?_, ?_⟩
      · show (if i = 10 * s + j then _ else _) = _
        rw [if_neg (by omega)]; exact i1 i hi
      · show (if 10 * s + b = 10 * s + j then _ else _) = _
        by_cases y : b = j
        · subst y; rw [if_pos rfl]
        · rw [if_neg (by omega)]; exact i2 b (by omega) hbit
      · show min _ _ = _
        rw [i3]
      · show _ + _ = _
        rw [i4]; rfl
    · rw [if_neg q, if_neg q, if_neg q]
      refine ⟨i1, fun b hb hbit => ?_, i3, ?_⟩
      · by_cases y : b = j
        · subst y; exact absurd hbit q
        · exact i2 b (by omega) hbit
      · rw [Int.add_zero]; exact i4
theorem leM_leC {Wc S T : Nat → Int} {s l : Nat} (hn : n ≤ 10) (hl : l < 10) (hst : st < 10) (hW : fwO W) (hWW : ∀ j, j < 100 → Wc j = W j) (hr : ∀ p, p < n → leR s l / 2 ^ p % 2 = 1 → T (10 * leR s l + p) = min (S (10 * leR s l + p)) 1000000) : leM T W st n s l = min (leC S Wc st n s l) 1000000 := by
  have key : ∀ k, k ≤ n → min (mnl (fun p => leR s l / 2 ^ p % 2 = 1) (fun p => T (10 * leR s l + p) + W (10 * p + l) + 5) (if leR s l = 0 then W (10 * st + l) + 5 else 1000000) k) 1000000 = min (mnl (fun p => leR s l / 2 ^ p % 2 = 1) (fun p => S (10 * leR s l + p) + Wc (10 * p + l)) (if leR s l = 0 then Wc (10 * st + l) else 1000000) k + 5) 1000000 := by
    intro k
    induction k with
    | zero =>
      intro _
      rw [mnl, mnl]
      have := hWW (10 * st + l) (by omega)
      split <;> omega
    | succ k ih =>
      intro hk
      have i1 := ih (by omega)
      rw [mnl, mnl]
      by_cases q : leR s l / 2 ^ k % 2 = 1
      · rw [if_pos q, if_pos q]
        have e := hr k (by omega) q
        have w := hWW (10 * k + l) (by omega)
        have w0 := hW (10 * k + l) (by omega)
        omega
      · rw [if_neg q, if_neg q]; exact i1
  unfold leM leC
  exact key n (Nat.le_refl _)
end PT
