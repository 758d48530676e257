/-! Patrols: both loops, side by side. -/
section PL
variable {W V : Nat → Int} {st n v : Nat} {t : Int}
/-- what holds before a set is looked at -/
def plJ (W V : Nat → Int) (st n v : Nat) (t : Int) (m0 : mz_M) (s : Nat) (mC : mz_M) (P : pS) : Prop :=
  (paO mC 150 19 n st ∧ (∀ j, j < n → mC 151 j = V j) ∧ (∀ j, j < 100 → mC 24 j = W j) ∧ ∀ a, a < 150 ∨ 152 < a → mC a = m0 a) ∧
  (shM P.1 ∧ gdM W st n P.1 s ∧ ∀ s', 1 ≤ s' → s' < s → adn s' v = 0 → ∀ l, l < n → s' / 2 ^ l % 2 = 1 → P.1 (10 * s' + l) = min (mC 152 (10 * s' + l)) 1000000) ∧
  (mC 150 3 = P.2.2.1 ∧ mC 150 4 = P.2.2.2 ∧ mC 150 5 = P.2.1) ∧
  (∀ s', 1 ≤ s' → s' < s → lnS P.1 s' n ≤ t → vlS V s' n < P.2.2.1 ∨ (vlS V s' n = P.2.2.1 ∧ P.2.2.2 ≤ lnS P.1 s' n)) ∧
  (0 ≤ P.2.2.1 ∧ (P.2.2.1 = 0 → P.2.2.2 = 0))
theorem lnS_congr {T T' : Nat → Int} {s : Nat} (h : ∀ l, l < n → s / 2 ^ l % 2 = 1 → T (10 * s + l) = T' (10 * s + l)) : lnS T s n = lnS T' s n := mnl_congr h
theorem lnS_0 {T : Nat → Int} {s : Nat} (h : ∀ l, l < n → s / 2 ^ l % 2 = 1 → 0 ≤ T (10 * s + l)) : 0 ≤ lnS T s n := (mnl_ok (by omega) h).1
theorem pl_step (hn : n ≤ 10) (hst : st < 10) (hW : fwO W) (h3 : ∀ i v j, i < 10 → v < 10 → j < 10 → W (10 * i + j) ≤ W (10 * i + v) + W (10 * v + j)) (hv2 : v < 2147483648) (hV : ∀ j, j < n → (0 ≤ V j ∧ V j ≤ 1000000) ∧ (¬ v / 2 ^ j % 2 = 1 → V j = 0) ∧ (v / 2 ^ j % 2 = 1 → 0 < V j)) {m0 mC : mz_M} {P : pS} {s : Nat} (h1 : 1 ≤ s) (hs : s < 2 ^ n) (h : plJ W V st n v t m0 s mC P) : plJ W V st n v t m0 (s + 1) (if adn s v = 0 then csM mC 150 19 st n t s else mC) (mcsN V W st n t s P) := by
  obtain ⟨⟨hpa, hCV, hCW, hfr⟩, ⟨hsh, hg, hrel⟩, ⟨e3, e4, e5⟩, hdom, hz⟩ := h
  have hp2 : 2 ^ n ≤ 1024 := Nat.pow_le_pow_right (by omega) (show n ≤ 10 from hn)
  have VB : ∀ j, j < n → 0 ≤ V j ∧ V j ≤ 1000000 := fun j hj => (hV j hj).1
  have A := mcsF_at (V := V) (W := W) (st := st) (S := P.1) (s := s) hn n (Nat.le_refl _)
  have O := mcsF_ok (V := V) (W := W) (st := st) (s := s) (S := P.1) hn (by omega) hst hW hsh VB n (Nat.le_refl _)
  have eP1 : (mcsN V W st n t s P).1 = (mcsF V W st n s P.1 n).1 := by unfold mcsN; split <;> rfl
  -- the new table is good
  have g2 : gdM W st n (mcsF V W st n s P.1 n).1 (s + 1) := by
    intro s' a1 a2 l hl hb
    rcases Nat.lt_or_ge s' s with q | q
    · rw [A.1 _ (by omega), hg s' a1 q l hl hb]
      exact leM_low hn (by omega) hb fun i hi => (A.1 i (by omega)).symm
    · obtain rfl : s' = s := by omega
      rw [A.2.1 l hl hb]
      exact leM_low hn (by omega) hb fun i hi => (A.1 i hi).symm
  have ln : lnS (mcsF V W st n s P.1 n).1 s n = (mcsF V W st n s P.1 n).2.1 := by
    rw [A.2.2.1]
    exact mnl_congr fun l hl hb => A.2.1 l hl hb
  have lnO' : ∀ s', s' < s → lnS (mcsF V W st n s P.1 n).1 s' n = lnS P.1 s' n := fun s' q => lnS_congr fun l hl _ => A.1 _ (by omega)
  have ln0 : 0 ≤ (mcsF V W st n s P.1 n).2.1 := O.2.1.1
  have vl := A.2.2.2
  have v0 : 0 ≤ vlS V s n := sm_0 fun j hj => by
    split
    · exact (VB j hj).1
    · omega
  -- the decision
  have N1 : mcsN V W st n t s P = if lnS (mcsF V W st n s P.1 n).1 s n ≤ t ∧ (P.2.2.1 < vlS V s n ∨ vlS V s n = P.2.2.1 ∧ lnS (mcsF V W st n s P.1 n).1 s n < P.2.2.2) then ((mcsF V W st n s P.1 n).1, (s : Int), vlS V s n, lnS (mcsF V W st n s P.1 n).1 s n) else ((mcsF V W st n s P.1 n).1, P.2.1, P.2.2.1, P.2.2.2) := by
    unfold mcsN
    rw [vl, ln]
  generalize hT : (mcsF V W st n s P.1 n).1 = T at A O eP1 g2 ln lnO' N1
  by_cases q : adn s v = 0
  · rw [if_pos q]
    have hC4 : ∀ j, j < 100 → mC (19 + 5) j = W j := hCW
    have B := csF_at (V := mC (150 + 1)) (W := mC (19 + 5)) (st := st) (S := mC (150 + 2)) (s := s) hn n (Nat.le_refl _)
    have rl : ∀ l, l < n → s / 2 ^ l % 2 = 1 → leM P.1 W st n s l = min (leC (mC (150 + 2)) (mC (19 + 5)) st n s l) 1000000 := fun l hl hb => by
      refine leM_leC hn (by omega) hst hW hC4 fun p hp hbp => ?_
      have lt := leR_lt (show l < 10 by omega) hb
      have r1 : 1 ≤ leR s l := by
        rcases Nat.eq_zero_or_pos (leR s l) with y | y
        · rw [y, Nat.zero_div] at hbp; omega
        · exact y
      exact hrel _ r1 lt (adn_leR q) p hp hbp
    have eV : vlS (mC (150 + 1)) s n = vlS V s n := sm_congr fun j hj => by rw [show mC (150 + 1) j = V j from hCV j hj]
    have eL : (csF (mC (150 + 1)) (mC (19 + 5)) st n s (mC (150 + 2)) n).2.1 = lnS T s n := by
      rw [B.2.2.1, ln, A.2.2.1]
      have : ∀ k, k ≤ n → mnl (fun l => s / 2 ^ l % 2 = 1) (fun l => leC (mC (150 + 2)) (mC (19 + 5)) st n s l) 1000000 k = mnl (fun l => s / 2 ^ l % 2 = 1) (fun l => leM P.1 W st n s l) 1000000 k := by
        intro k
        induction k with
        | zero => intro _; rfl
        | succ k ih =>
          intro hk
          have i1 := ih (by omega)
          rw [mnl, mnl, i1]
          by_cases y : s / 2 ^ k % 2 = 1
          · rw [if_pos y, if_pos y, rl k (by omega) y]
            have := (mnl_le (P := fun l => s / 2 ^ l % 2 = 1) (f := fun l => leM P.1 W st n s l) (b := 1000000) k).1
            omega
          · rw [if_neg y, if_neg y]
      exact this n (Nat.le_refl _)
    have cM : csM mC 150 19 st n t s = if lnS T s n ≤ t ∧ (P.2.2.1 < vlS V s n ∨ vlS V s n = P.2.2.1 ∧ lnS T s n < P.2.2.2) then mz_up (mz_up (mz_up (rowS mC (150 + 2) 10240 (csF (mC (150 + 1)) (mC (19 + 5)) st n s (mC (150 + 2)) n).1) 150 3 (vlS V s n)) 150 4 (lnS T s n)) 150 5 s else rowS mC (150 + 2) 10240 (csF (mC (150 + 1)) (mC (19 + 5)) st n s (mC (150 + 2)) n).1 := by
      unfold csM
      rw [B.2.2.2, eV, eL, e3, e4]
    have paN := csM_ok (t := t) hn (show s < 1024 by omega) hst (show 19 + 5 < 150 by omega) hpa
    have S152 : ∀ i, i < 10240 → csM mC 150 19 st n t s 152 i = (csF (mC (150 + 1)) (mC (19 + 5)) st n s (mC (150 + 2)) n).1 i := fun i hi => csM_S i hi
    have Co : ∀ a, a ≠ 150 → a ≠ 152 → csM mC 150 19 st n t s a = mC a := fun a h1 h2 => by funext i; exact csM_o h1 h2
    have relN : ∀ s', 1 ≤ s' → s' < s + 1 → adn s' v = 0 → ∀ l, l < n → s' / 2 ^ l % 2 = 1 → T (10 * s' + l) = min (csM mC 150 19 st n t s 152 (10 * s' + l)) 1000000 := by
      intro s' a1 a2 a3 l hl hb
      rw [S152 _ (by omega)]
      rcases Nat.lt_or_ge s' s with y | y
      · rw [B.1 _ (by omega), A.1 _ (by omega)]
        exact hrel s' a1 y a3 l hl hb
      · obtain rfl : s' = s := by omega
        rw [B.2.1 l hl hb, A.2.1 l hl hb]
        exact rl l hl hb
    -- a set of places with value has value
    have vpos : 0 < vlS V s n := by
      obtain ⟨x, x1, x2⟩ := bit_ex n s (by omega) hs
      have bx : v / 2 ^ x % 2 = 1 := by
        by_cases y : v / 2 ^ x % 2 = 1
        · exact y
        · have := adn_bit (s := s) (v := v) (i := x) (by omega) hv2
          rw [if_pos ⟨x2, y⟩, q, Nat.zero_div] at this
          omega
      have := vl_rm (V := V) hn x1 x2
      have p0 : 0 ≤ vlS V (leR s x) n := sm_0 fun j hj => by
        split
        · exact (VB j hj).1
        · omega
      have := (hV x x1).2.2 bx
      omega
    refine ⟨⟨paN, fun j hj => ?_, fun j hj => ?_, fun a ha => ?_⟩, ⟨?_, ?_, ?_⟩, ?_, ?_, ?_⟩
    · rw [Co 151 (by omega) (by omega)]; exact hCV j hj
    · rw [Co 24 (by omega) (by omega)]; exact hCW j hj
    · rw [Co a (by omega) (by omega)]; exact hfr a ha
    · rw [eP1]; exact O.1
    · rw [eP1]; exact g2
    · rw [eP1]; exact relN
    · rw [N1, cM]
      by_cases y : lnS T s n ≤ t ∧ (P.2.2.1 < vlS V s n ∨ vlS V s n = P.2.2.1 ∧ lnS T s n < P.2.2.2)
      · rw [if_pos y, if_pos y]
        refine ⟨?_, ?_, ?_⟩
        · rw [up_k (by omega), up_k (by omega), up_s]
        · rw [up_k (by omega), up_s]
        · rw [up_s]
      · rw [if_neg y, if_neg y]
        rw [rowS_o (by omega), rowS_o (by omega), rowS_o (by omega)]
        exact ⟨e3, e4, e5⟩
    · intro s' a1 a2 a3
      rw [eP1] at a3 ⊢
      rw [N1]
      rcases Nat.lt_or_ge s' s with w | w
      · rw [lnO' s' w] at a3 ⊢
        have d := hdom s' a1 w a3
        by_cases y : lnS T s n ≤ t ∧ (P.2.2.1 < vlS V s n ∨ vlS V s n = P.2.2.1 ∧ lnS T s n < P.2.2.2)
        · rw [if_pos y]; simp only; omega
        · rw [if_neg y]; exact d
      · obtain rfl : s' = s := by omega
        by_cases y : lnS T s' n ≤ t ∧ (P.2.2.1 < vlS V s' n ∨ vlS V s' n = P.2.2.1 ∧ lnS T s' n < P.2.2.2)
        · rw [if_pos y]; exact Or.inr ⟨rfl, Int.le_refl _⟩
        · rw [if_neg y]; simp only; omega
    · rw [N1]
      by_cases y : lnS T s n ≤ t ∧ (P.2.2.1 < vlS V s n ∨ vlS V s n = P.2.2.1 ∧ lnS T s n < P.2.2.2)
      · rw [if_pos y]; simp only; omega
      · rw [if_neg y]; exact hz
  · rw [if_neg q]
    have no : ¬ (lnS T s n ≤ t ∧ (P.2.2.1 < vlS V s n ∨ vlS V s n = P.2.2.1 ∧ lnS T s n < P.2.2.2)) := by
      intro ⟨y1, y2⟩
      rcases pv_sub (T := T) (V := V) (v := v) hn hst hW h3 hv2 (show s + 1 ≤ 2 ^ n by omega) g2 (fun j hj => (hV j hj).2.1) s s (Nat.le_refl _) h1 (by omega) with w | ⟨s', a1, a2, a3, a4, a5⟩
      · rw [ln] at y2; omega
      · have ne : s' ≠ s := fun z => q (by rw [← z]; exact a3)
        have d := hdom s' a1 (by omega) (by rw [← lnO' s' (by omega)]; omega)
        rw [← lnO' s' (by omega)] at d
        omega
    rw [if_neg no] at N1
    rw [N1]
    refine ⟨⟨hpa, hCV, hCW, hfr⟩, ⟨O.1, g2, fun s' a1 a2 a3 l hl hb => ?_⟩, ⟨e3, e4, e5⟩, fun s' a1 a2 a3 => ?_, hz⟩
    · have ne : s' ≠ s := fun z => q (by rw [← z]; exact a3)
      show T (10 * s' + l) = _
      rw [A.1 _ (by omega)]
      exact hrel s' a1 (by omega) a3 l hl hb
    · simp only at a3 ⊢
      rcases Nat.lt_or_ge s' s with w | w
      · rw [lnO' s' w] at a3 ⊢
        exact hdom s' a1 w a3
      · obtain rfl : s' = s := by omega
        omega
theorem pl_all (hn : n ≤ 10) (hst : st < 10) (hW : fwO W) (h3 : ∀ i v j, i < 10 → v < 10 → j < 10 → W (10 * i + j) ≤ W (10 * i + v) + W (10 * v + j)) (hv2 : v < 2147483648) (hV : ∀ j, j < n → (0 ≤ V j ∧ V j ≤ 1000000) ∧ (¬ v / 2 ^ j % 2 = 1 → V j = 0) ∧ (v / 2 ^ j % 2 = 1 → 0 < V j)) {m0 : mz_M} : ∀ (r s : Nat) (mC : mz_M) (P : pS), 1 ≤ s → s + r = 2 ^ n → plJ W V st n v t m0 s mC P → plJ W V st n v t m0 (2 ^ n) (plI 150 19 st n t v r s mC) (mplI V W st n t r s P) := by
  intro r
  induction r with
  | zero =>
    intro s mC P h1 hs h
    obtain rfl : s = 2 ^ n := by omega
    exact h
  | succ r ih =>
    intro s mC P h1 hs h
    rw [plI, mplI]
    exact ih (s + 1) _ _ (by omega) (by omega) (pl_step hn hst hW h3 hv2 hV h1 (by omega) h)
end PL
theorem patrol_all {m : mz_M} {N n : Nat} (h : Rel m) (hw : RW m 18 (m 154) N) {t st : Nat} (k : Int) (ht : m 18 3 = t) (hn : m (18 + 1) 0 = n) (hst : st < n) : ∀ m1 : mz_M, (∀ a, a < 150 ∨ 152 < a → m1 a = m a) → plJ (mW (m 154)) (mpV (m 154) N n (m 166)) st n (bs (fun p => decide (0 < fvF m 18 t p)) n) k (pvM m 150 18 st t n) (2 ^ n) (ppM m n t st k) (mpF m1 N n st k) := by
  intro m1 hm1
  have hs := RW_sz hw
  have n10 : n ≤ 10 := by omega
  have hsc := h.2.2.2.1
  have e154 : m1 154 = m 154 := hm1 154 (by omega)
  have e165 : m1 165 = m 165 := hm1 165 (by omega)
  have e166 : m1 166 = m 166 := hm1 166 (by omega)
  have tri : ∀ i v j, i < 10 → v < 10 → j < 10 → mW (m 154) (10 * i + j) ≤ mW (m 154) (10 * i + v) + mW (m 154) (10 * v + j) := by
    intro i v j hi hv hj
    have g : ∀ a b, a < 10 → b < 10 → mW (m 154) (10 * a + b) = fwT (m 23) (10 * a + b) := fun a b ha hb => by
      have c := hw.1.2.2 (10 * a + b) (by omega)
      exact c.2.trans c.1
    rw [g i j hi hj, g i v hi hv, g v j hv hj]
    exact (fwT_K (R := m 23) hw.1.1.2.2.2.2.2.1).2.2.1 i v j hi hv hv hj
  have fvV : ∀ p, p < n → mpV (m 154) N n (m 166) p = fvF m 18 t p := fun p hp => by
    unfold mpV
    rw [if_pos hp]
    have := q_vsum hw ht 0 p
    rw [lat_0] at this
    simp only [Nat.add_zero] at this
    exact this
  have fvo : ∀ p, 0 ≤ fvF m 18 t p ∧ fvF m 18 t p ≤ 8500 * 16 := fun p => fvF_ok fun c hc => RW_caO hw c hc
  unfold ppM mpF
  rw [e154, e165, e166]
  have p1 : 1 ≤ 2 ^ n := Nat.one_le_two_pow
  refine pl_all n10 (by omega) (RW_mW hw) tri (Nat.lt_of_lt_of_le (bs_lt _ n) (Nat.le_trans (Nat.pow_le_pow_right (by omega) n10) (by omega))) (fun j hj => ?_) (2 ^ n - 1) 1 _ _ (Nat.le_refl _) (by omega) ?_
  · rw [fvV j hj, bs_tb _ hj]
    have := fvo j
    refine ⟨by omega, fun q => ?_, fun q => ?_⟩
    · by_cases y : 0 < fvF m 18 t j
      · rw [decide_eq_true y, if_pos rfl] at q; exact absurd rfl q
      · omega
    · by_cases y : 0 < fvF m 18 t j
      · exact y
      · rw [decide_eq_false y, if_neg (by simp)] at q; omega
  · have pvo : ∀ a, a ≠ 150 → a ≠ 151 → pvM m 150 18 st t n a = m a := fun a h1 h2 => by
      funext i
      unfold pvM
      rw [rowS_o (by omega)]
      simp (disch := omega) only [up_o]
    have pv1 : ∀ j, j < n → pvM m 150 18 st t n 151 j = fvF m 18 t j := fun j hj => by
      unfold pvM
      rw [show (151 : Nat) = 150 + 1 from rfl, rowS_at (by omega), if_pos hj]
    have pvq : pvM m 150 18 st t n 150 2 = st ∧ pvM m 150 18 st t n 150 3 = 0 ∧ pvM m 150 18 st t n 150 4 = 0 ∧ pvM m 150 18 st t n 150 5 = 0 := by
      unfold pvM
      rw [rowS_o (by omega), rowS_o (by omega), rowS_o (by omega), rowS_o (by omega)]
      simp (disch := omega) only [up_k, up_s]
      exact ⟨trivial, trivial, trivial, trivial⟩
    refine ⟨⟨⟨?_, pvq.1, ?_, ?_, fun j hj => ?_⟩, fun j hj => ?_, fun j hj => ?_, fun a _ => rfl⟩, ⟨hsc.2.2.2, fun s h1 h2 => absurd h2 (by omega), fun s h1 h2 => absurd h2 (by omega)⟩, ⟨pvq.2.1, pvq.2.2.1, pvq.2.2.2⟩, fun s h1 h2 => absurd h2 (by omega), Int.le_refl _, fun _ => rfl⟩
    · rw [pvo 19 (by omega) (by omega)]; exact hn
    · rw [pvo (19 + 5) (by omega) (by omega)]; exact RW_way hw
    · rw [pvo (150 + 2) (by omega) (by omega)]; exact hsc.2.2.1
    · rw [show (150 + 1 : Nat) = 151 from rfl, pv1 j hj]
      have := fvo j; omega
    · rw [pv1 j hj, fvV j hj]
    · rw [pvo 24 (by omega) (by omega)]; exact ((hw.1.2.2 j hj).2).symm
theorem Rel_patrol {m : mz_M} {N n : Nat} (h : Rel m) (hw : RW m 18 (m 154) N) {t st : Nat} (k : Int) (ht : m 18 3 = t) (hn : m (18 + 1) 0 = n) (hst : st < n) : (∀ a, a < 150 ∨ 152 < a → ppM m n t st k a = m a) ∧ (ppM m n t st k 150 3 = (mpF (ppM m n t st k) N n st k).2.2.1 ∧ ppM m n t st k 150 4 = (mpF (ppM m n t st k) N n st k).2.2.2 ∧ ppM m n t st k 150 5 = (mpF (ppM m n t st k) N n st k).2.1) ∧ Rel (mpM (ppM m n t st k) N n st k) := by
  have j0 := patrol_all h hw k ht hn hst m (fun _ _ => rfl)
  have fr : ∀ a, a < 150 ∨ 152 < a → ppM m n t st k a = m a := fun a ha => by
    rw [j0.1.2.2.2 a ha]
    funext i
    unfold pvM
    rw [rowS_o (by omega)]
    simp (disch := omega) only [up_o]
  have j := patrol_all h hw k ht hn hst (ppM m n t st k) fr
  refine ⟨fr, j.2.2.1, ?_⟩
  have F : ∀ a, (a < 150 ∨ 152 < a) → a ≠ 153 → a ≠ 165 → a ≠ 166 → mpM (ppM m n t st k) N n st k a = m a := fun a h1 h2 h3 h4 => by
    rw [← fr a h1]
    funext i
    unfold mpM pMP pM rO
    rw [if_neg h3, if_neg (by omega), if_neg (by omega), if_neg (by omega), if_neg h4, up_o h2]
  have F3 : ∀ i, i ≠ 24 → i ≠ 25 → i ≠ 26 → i ≠ 4 → mpM (ppM m n t st k) N n st k 153 i = m 153 i := fun i h1 h2 h3 h4 => by
    unfold mpM pMP pM rO
    rw [if_neg (by omega), if_neg (by omega), if_neg (by omega), if_neg (by omega), if_neg (by omega), up_k h4, fr 153 (by omega)]
  have e : ∀ a, frz a → mpM (ppM m n t st k) N n st k a = m a := fun a ha => by unfold frz at ha; exact F a (by omega) (by omega) (by omega) (by omega)
  obtain ⟨⟨c1, c2, c3, c4⟩, c5, c6⟩ := h.2.2.2
  refine Rel_frame h e ?_ ⟨F3 6 (by omega) (by omega) (by omega) (by omega), F3 8 (by omega) (by omega) (by omega) (by omega), F3 11 (by omega) (by omega) (by omega) (by omega)⟩ ⟨⟨?_, ?_, ?_, ?_⟩, spR_congr (fun a q1 q2 q3 q4 => e a (by unfold frz; omega)) c5, fun x hx hu => spR_congr (fun a q1 q2 q3 q4 => e a (by unfold frz; omega)) (c6 x hx (by rw [← e 139 (by unfold frz; omega)]; exact hu))⟩
  · rw [F 1 (by omega) (by omega) (by omega) (by omega)]; exact ⟨rfl, rfl⟩
  · rw [F 145 (by omega) (by omega) (by omega) (by omega)]; exact c1
  · rw [F 146 (by omega) (by omega) (by omega) (by omega)]; exact c2
  · have : mpM (ppM m n t st k) N n st k 152 = ppM m n t st k 152 := by
      funext i
      unfold mpM pMP pM rO
      rw [if_neg (by omega), if_neg (by omega), if_neg (by omega), if_neg (by omega), if_neg (by omega), up_o (by omega)]
    rw [this]
    exact j.1.1.2.2.2.1
  · have : mpM (ppM m n t st k) N n st k 165 = (mpF (ppM m n t st k) N n st k).1 := by
      funext i
      unfold mpM pMP pM
      rw [if_pos rfl]
    rw [this]
    exact j.2.1.1
theorem b_patrol {m : mz_M} (h : Rel m) (x k : Int) : both 290 274 [mz_i x, mz_i k] m ∧ both 289 273 [mz_i x, mz_i k] m ∧ both 288 272 [mz_i x, mz_i k] m := by
  obtain ⟨N, hw⟩ := h.1
  have hs := RW_sz hw
  obtain ⟨t, ht, ht2⟩ := RW_t hw
  obtain ⟨n, hn⟩ := nat_i (show 0 ≤ m (18 + 1) 0 by omega)
  have hsc := h.2.2.2.1
  have hO := fun c (hc : c < 16) => RW_caO hw c hc
  have c1 := sp_X8_patrolValue m x k hO ht (by omega) (show n ≤ 10 by omega) hn (RW_way hw) hsc.2.2.1
  have c2 := sp_X8_patrolSet m x k hO ht (by omega) (show n ≤ 10 by omega) hn (RW_way hw) hsc.2.2.1
  have c3 := sp_X8_patrolMinutes m x k hO ht (by omega) (show n ≤ 10 by omega) hn (RW_way hw) hsc.2.2.1
  have z : m 154 0 = n := hs.1.trans hn
  by_cases hx : (0 ≤ x ∧ x < m (18 + 1) 0) ∧ 0 ≤ k ∧ k ≤ 600
  · obtain ⟨st, rfl⟩ := nat_i hx.1.1
    rw [if_pos hx, if_pos hx, Int.toNat_natCast] at c1 c2 c3
    obtain ⟨fr, ⟨v3, v4, v5⟩, hR⟩ := Rel_patrol h hw k ht hn (show st < n by omega)
    have e154 : ppM m n t st k 154 = m 154 := fr 154 (by omega)
    have e165 : ppM m n t st k 165 = m 165 := fr 165 (by omega)
    have d1 := sp_X9_patrolValue (ppM m n t st k) st k (n := n) (N := N) (by rw [e154]; exact RW_mVO hw) (by omega) (by rw [e154]; exact z) (by rw [e154]; exact RW_mW hw) (by rw [e165]; exact hsc.2.2.2)
    have d2 := sp_X9_patrolSet (ppM m n t st k) st k (n := n) (N := N) (by rw [e154]; exact RW_mVO hw) (by omega) (by rw [e154]; exact z) (by rw [e154]; exact RW_mW hw) (by rw [e165]; exact hsc.2.2.2)
    have d3 := sp_X9_patrolMinutes (ppM m n t st k) st k (n := n) (N := N) (by rw [e154]; exact RW_mVO hw) (by omega) (by rw [e154]; exact z) (by rw [e154]; exact RW_mW hw) (by rw [e165]; exact hsc.2.2.2)
    have hy : ((0 : Int) ≤ st ∧ (st : Int) < ppM m n t st k 154 0) ∧ 0 ≤ k ∧ k ≤ 600 := by rw [e154, hs.1]; exact hx
    rw [if_pos hy, if_pos hy, Int.toNat_natCast] at d1 d2 d3
    rw [← v3] at d1
    rw [← v5] at d2
    rw [← v4] at d3
    exact ⟨⟨_, _, _, c1, d1, hR⟩, ⟨_, _, _, c2, d2, hR⟩, ⟨_, _, _, c3, d3, hR⟩⟩
  · rw [if_neg hx, if_neg hx] at c1 c2 c3
    have hy : ¬ ((0 ≤ x ∧ x < m 154 0) ∧ 0 ≤ k ∧ k ≤ 600) := by rw [hs.1]; exact hx
    have d1 := sp_X9_patrolValue m x k (n := n) (N := N) (RW_mVO hw) (by omega) z (RW_mW hw) hsc.2.2.2
    have d2 := sp_X9_patrolSet m x k (n := n) (N := N) (RW_mVO hw) (by omega) z (RW_mW hw) hsc.2.2.2
    have d3 := sp_X9_patrolMinutes m x k (n := n) (N := N) (RW_mVO hw) (by omega) z (RW_mW hw) hsc.2.2.2
    rw [if_neg hy, if_neg hy] at d1 d2 d3
    exact ⟨b_read h c1 d1 rfl, b_read h c2 d2 rfl, b_read h c3 d3 rfl⟩
