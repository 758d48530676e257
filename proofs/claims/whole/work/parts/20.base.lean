/-! Words of my own for what methods answer. -/
abbrev sp (k : Nat) (as : List mz_V) (m : mz_M) (r : Option mz_V) (m' : mz_M) : Prop := mz_cl k as (mz_fu m) r (mz_fu m')
abbrev sx (k i : Nat) (ls : mz_Ls) (st : List mz_V) (m : mz_M) (r : Option mz_V) (m' : mz_M) : Prop := mz_ex k i ls st (mz_fu m) r (mz_fu m')
theorem up_s {m : mz_M} {o k : Nat} {v : Int} : mz_up m o k v o k = v := by simp [mz_up]
theorem up_o {m : mz_M} {o k a j : Nat} {v : Int} (h : a ≠ o) : mz_up m o k v a j = m a j := by simp [mz_up, h]
theorem up_k {m : mz_M} {o k a j : Nat} {v : Int} (h : j ≠ k) : mz_up m o k v a j = m a j := by simp [mz_up, h]
theorem up_at (m : mz_M) (o k a j : Nat) (v : Int) : mz_up m o k v a j = if a = o ∧ j = k then v else m a j := rfl
theorem up_n {m : mz_M} {o k a j : Nat} {v : Int} (h : ¬(a = o ∧ j = k)) : mz_up m o k v a j = m a j := by unfold mz_up; rw [if_neg h]
theorem cp_n {m : mz_M} {o d n a j : Nat} (h : ¬(a = d ∧ j < n)) : mz_cp m o d n a j = m a j := by unfold mz_cp; rw [if_neg h]
theorem cp_o {m : mz_M} {o d n a j : Nat} (h : a ≠ d) : mz_cp m o d n a j = m a j := by unfold mz_cp; rw [if_neg (fun x => h x.1)]
theorem cp_s {m : mz_M} {o d n j : Nat} (h : j < n) : mz_cp m o d n d j = m o j := by unfold mz_cp; rw [if_pos ⟨rfl, h⟩]
theorem up_id (m : mz_M) (o k : Nat) : mz_up m o k (m o k) = m := by
  funext a j
  simp only [mz_up]
  split
  · rename_i h; rw [h.1, h.2]
  · rfl
def sm (f : Nat → Int) : Nat → Int
  | 0 => 0
  | n + 1 => sm f n + f n
theorem sm_congr {f g : Nat → Int} {n : Nat} (h : ∀ i, i < n → f i = g i) : sm f n = sm g n := by
  induction n with
  | zero => rfl
  | succ n ih => simp only [sm]; rw [ih (fun i hi => h i (Nat.lt_succ_of_lt hi)), h n (Nat.lt_succ_self n)]
theorem sm_le {f g : Nat → Int} {n : Nat} (h : ∀ i, i < n → f i ≤ g i) : sm f n ≤ sm g n := by
  induction n with
  | zero => exact Int.le_refl _
  | succ n ih => simp only [sm]; have := ih (fun i hi => h i (Nat.lt_succ_of_lt hi)); have := h n (Nat.lt_succ_self n); omega
theorem sm_const (c : Int) (n : Nat) : sm (fun _ => c) n = c * n := by
  induction n with
  | zero => simp [sm]
  | succ n ih => simp only [sm, ih]; rw [Int.natCast_succ, Int.mul_add]; omega
theorem sm_0 {f : Nat → Int} {n : Nat} (h : ∀ i, i < n → 0 ≤ f i) : 0 ≤ sm f n := by
  have := sm_le (f := fun _ => 0) (g := f) h
  rw [sm_const] at this
  omega
theorem sm_ub {f : Nat → Int} {n : Nat} {c : Int} (h : ∀ i, i < n → f i ≤ c) : sm f n ≤ c * n := by
  have := sm_le (g := fun _ => c) (f := f) h
  rwa [sm_const] at this
theorem sm_mono {f : Nat → Int} {n n' : Nat} (hn : n ≤ n') (h : ∀ i, i < n' → 0 ≤ f i) : sm f n ≤ sm f n' := by
  induction n' with
  | zero => rw [show n = 0 by omega]; exact Int.le_refl _
  | succ n' ih =>
    rcases Nat.lt_or_ge n (n' + 1) with q | q
    · have := ih (by omega) (fun i hi => h i (by omega))
      have := h n' (by omega)
      simp only [sm]
      omega
    · rw [show n = n' + 1 by omega]; exact Int.le_refl _
/-! bits -/
theorem bv_ti {a : Nat} (h : a < 2147483648) : (Int32.ofInt (a : Int)).toBitVec = BitVec.ofNat 32 a := by
  show BitVec.ofInt 32 (a : Int) = _
  simp
theorem bv_to {a : Nat} (h : a < 2147483648) : (BitVec.ofNat 32 a).toInt = (a : Int) := by
  have e : BitVec.ofNat 32 a = (Int32.ofInt (a : Int)).toBitVec := (bv_ti h).symm
  rw [e]
  exact Int32.toInt_ofInt_of_le (by omega) (by omega)
theorem and_n {a b : Nat} (ha : a < 2147483648) (hb : b < 2147483648) : mz_and a b = ((a &&& b : Nat) : Int) := by
  show (Int32.ofInt (a : Int) &&& Int32.ofInt (b : Int)).toBitVec.toInt = _
  rw [Int32.toBitVec_and, bv_ti ha, bv_ti hb, ← BitVec.ofNat_and, bv_to (Nat.lt_of_le_of_lt Nat.and_le_left ha)]
theorem or_n {a b : Nat} (ha : a < 2147483648) (hb : b < 2147483648) : mz_or a b = ((a ||| b : Nat) : Int) := by
  show (Int32.ofInt (a : Int) ||| Int32.ofInt (b : Int)).toBitVec.toInt = _
  rw [Int32.toBitVec_or, bv_ti ha, bv_ti hb, ← BitVec.ofNat_or, bv_to (Nat.or_lt_two_pow (n := 31) ha hb)]
theorem nI_i (n : Nat) : Int32.ofInt (n : Int) = nI n := (mz_nn n).symm
theorem nI_ti {n : Nat} (h : n < 2147483648) : (nI n).toInt = (n : Int) := nI_toInt (by omega)
theorem sh_c : ∀ n, n < 32 → ((nI n &&& 31).toBitVec.smod 32).toNat = n := by decide +kernel
theorem ush_c : ∀ n, n < 32 → (((nI n).toUInt32 &&& Int32.toUInt32 31).toBitVec % 32).toNat = n := by decide +kernel
theorem shl_n {a k : Nat} (hk : k < 32) (h : a * 2 ^ k < 2147483648) : mz_shl a k = ((a * 2 ^ k : Nat) : Int) := by
  unfold mz_shl
  rw [nI_i, nI_i, pk_shlN _ k (sh_c k hk) (by omega), nI_ti h]
theorem shr_n {a k : Nat} (hk : k < 32) (h : a < 2147483648) : mz_shr a k = ((a / 2 ^ k : Nat) : Int) := by
  unfold mz_shr
  rw [nI_i, nI_i, pk_shrN (by omega) _ k (sh_c k hk), nI_ti (Nat.lt_of_le_of_lt (Nat.div_le_self _ _) h)]
theorem ushr_n {a k : Nat} (hk : k < 32) (h : a < 2147483648) : mz_ushr a k = ((a / 2 ^ k : Nat) : Int) := by
  unfold mz_ushr
  rw [nI_i, nI_i, pk_ushrN (by omega) _ k (ush_c k hk), nI_ti (Nat.lt_of_le_of_lt (Nat.div_le_self _ _) h)]
/-- a set as it is made: the elements below n that have P -/
def bs (P : Nat → Bool) : Nat → Nat
  | 0 => 0
  | n + 1 => if P n then bs P n + 2 ^ n else bs P n
theorem bs_lt (P : Nat → Bool) (n : Nat) : bs P n < 2 ^ n := by
  induction n with
  | zero => exact Nat.one_pos
  | succ n ih => simp only [bs]; rw [Nat.pow_succ]; split <;> omega
theorem bs_congr {P Q : Nat → Bool} {n : Nat} (h : ∀ i, i < n → P i = Q i) : bs P n = bs Q n := by
  induction n with
  | zero => rfl
  | succ n ih => simp only [bs]; rw [ih (fun i hi => h i (Nat.lt_succ_of_lt hi)), h n (Nat.lt_succ_self n)]
theorem bs_tb (P : Nat → Bool) {i n : Nat} (h : i < n) : bs P n / 2 ^ i % 2 = if P i then 1 else 0 := by
  induction n with
  | zero => omega
  | succ n ih =>
    simp only [bs]
    rcases Nat.lt_or_ge i n with q | q
    · have e : 2 ^ n = 2 ^ i * (2 * 2 ^ (n - i - 1)) := by
        rw [← Nat.pow_succ', ← Nat.pow_add]; congr 1; omega
      split
      · rw [e, Nat.add_mul_div_left _ _ (Nat.two_pow_pos i), Nat.add_mul_mod_self_left, ih q]
      · exact ih q
    · obtain rfl : i = n := by omega
      have := bs_lt P i
      split
      · rename_i hp
        rw [Nat.add_div_right _ (Nat.two_pow_pos i), Nat.div_eq_of_lt this]
      · rename_i hp
        rw [Nat.div_eq_of_lt this]
theorem bs_or (P : Nat → Bool) {n : Nat} (h : n < 31) : mz_or (bs P n) (mz_shl 1 n) = ((bs P n + 2 ^ n : Nat) : Int) := by
  have hp : 2 ^ n < 2147483648 := Nat.pow_lt_pow_right (by omega) (show n < 31 from h)
  have hb := bs_lt P n
  have e : mz_shl 1 n = ((2 ^ n : Nat) : Int) := by
    have := shl_n (a := 1) (k := n) (by omega) (by omega)
    rwa [Nat.one_mul] at this
  rw [e, or_n (by omega) hp]
  congr 1
  have := Nat.two_pow_add_eq_or_of_lt hb 1
  rw [Nat.mul_one] at this
  rw [Nat.or_comm, ← this, Nat.add_comm]
theorem pop_bs (P : Nat → Bool) (n : Nat) : ∀ {j : Nat}, j ≤ n → (pop (bs P n) j : Int) = sm (fun i => if P i then 1 else 0) j := by
  intro j
  induction j with
  | zero => intro _; rfl
  | succ j ih =>
    intro hj
    simp only [pop, sm]
    rw [Int.natCast_add, ih (by omega), bs_tb P (by omega)]
    split <;> rfl
theorem nat_i {x : Int} (h : 0 ≤ x) : ∃ n : Nat, x = (n : Int) := ⟨x.toNat, by omega⟩
theorem nat_lt {x : Int} {k : Nat} (h : 0 ≤ x) (h2 : x < k) : ∃ n : Nat, n < k ∧ x = (n : Int) := ⟨x.toNat, by omega, by omega⟩
def fst1 (P : Nat → Prop) [DecidablePred P] : Nat → Nat → Option Nat
  | 0, _ => none
  | r + 1, j => if P j then some j else fst1 P r (j + 1)
def opI (d : Int) : Option Nat → Int
  | none => d
  | some p => p
theorem fst1_some {P : Nat → Prop} [DecidablePred P] : ∀ {r j p : Nat}, fst1 P r j = some p → P p ∧ j ≤ p ∧ p < j + r ∧ ∀ i, j ≤ i → i < p → ¬ P i := by
  intro r
  induction r with
  | zero => intro j p h; cases h
  | succ r ih =>
    intro j p h
    unfold fst1 at h
    split at h
    · cases h
      exact ⟨by assumption, by omega, by omega, fun i _ _ => by omega⟩
    · have := ih h
      refine ⟨this.1, by omega, by omega, fun i h1 h2 => ?_⟩
      by_cases e : i = j
      · subst e; assumption
      · exact this.2.2.2 i (by omega) h2
theorem fst1_none {P : Nat → Prop} [DecidablePred P] : ∀ {r j : Nat}, fst1 P r j = none → ∀ i, j ≤ i → i < j + r → ¬ P i := by
  intro r
  induction r with
  | zero => intros; omega
  | succ r ih =>
    intro j h i h1 h2
    unfold fst1 at h
    split at h
    · cases h
    · by_cases e : i = j
      · subst e; assumption
      · exact ih h i (by omega) (by omega)
