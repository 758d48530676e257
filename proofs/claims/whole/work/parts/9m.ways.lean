/-! Shortest ways: a way over a third place is no shorter, and no way is long. -/
/-- what a round of the search comes to -/
def fwP (D : Nat → Int) (o f t : Nat) : Nat → Int := fun j => if j / 10 < f ∨ j / 10 = f ∧ j % 10 < t then min (D j) (D (10 * (j / 10) + o) + D (10 * o + j % 10)) else D j
theorem fwP_row {D : Nat → Int} {o f t : Nat} (h0 : D (10 * o + o) = 0) {i : Nat} (ho : o < 10) : fwP D o f t (10 * i + o) = D (10 * i + o) := by
  unfold fwP
  rw [show (10 * i + o) / 10 = i by omega, show (10 * i + o) % 10 = o by omega, h0]
  split <;> omega
theorem fwP_col {D : Nat → Int} {o f t : Nat} (h0 : D (10 * o + o) = 0) {i : Nat} (hi : i < 10) : fwP D o f t (10 * o + i) = D (10 * o + i) := by
  unfold fwP
  rw [show (10 * o + i) / 10 = o by omega, show (10 * o + i) % 10 = i by omega, h0]
  split <;> omega
theorem fwP_step {D T : Nat → Int} {o f t : Nat} (ho : o < 10) (ht : t < 10) (h0 : D (10 * o + o) = 0) (h : ∀ j, j < 100 → T j = fwP D o f t j) (hf : f < 10) : ∀ j, j < 100 → fwS T o f t j = fwP D o f (t + 1) j := by
  intro j hj
  unfold fwS
  by_cases q : j = 10 * f + t
  · rw [if_pos q, h j hj, h _ (by omega), h _ (by omega), fwP_row h0 ho, fwP_col h0 ht]
    subst q
    unfold fwP
    rw [show (10 * f + t) / 10 = f by omega, show (10 * f + t) % 10 = t by omega, if_neg (by omega), if_pos (by omega)]
  · rw [if_neg q, h j hj]
    unfold fwP
    by_cases w : j / 10 < f ∨ j / 10 = f ∧ j % 10 < t
    · rw [if_pos w, if_pos (by omega)]
    · rw [if_neg w, if_neg (by omega)]
theorem fwP_nx {D : Nat → Int} {o f : Nat} : fwP D o f 10 = fwP D o (f + 1) 0 := by
  funext j
  unfold fwP
  by_cases w : j / 10 < f ∨ j / 10 = f ∧ j % 10 < 10
  · rw [if_pos w, if_pos (by omega)]
  · rw [if_neg w, if_neg (by omega)]
theorem fwN_in {T0 D : Nat → Int} {o : Nat} (ho : o < 10) (h0 : D (10 * o + o) = 0) (h : ∀ j, j < 100 → fwN T0 (100 * o) j = D j) : ∀ k, k ≤ 100 → ∀ j, j < 100 → fwN T0 (100 * o + k) j = fwP D o (k / 10) (k % 10) j := by
  intro k
  induction k with
  | zero =>
    intro _ j hj
    rw [Nat.add_zero, h j hj]
    unfold fwP
    rw [if_neg (by omega)]
  | succ k ih =>
    intro hk j hj
    have i1 := ih (by omega)
    rw [show 100 * o + (k + 1) = (100 * o + k) + 1 by omega]
    show fwS (fwN T0 (100 * o + k)) ((100 * o + k) / 100) ((100 * o + k) / 10 % 10) ((100 * o + k) % 10) j = _
    rw [show (100 * o + k) / 100 = o by omega, show (100 * o + k) / 10 % 10 = k / 10 by omega, show (100 * o + k) % 10 = k % 10 by omega]
    have s := fwP_step ho (show k % 10 < 10 by omega) h0 i1 (by omega) j hj
    rw [s]
    by_cases q : k % 10 = 9
    · rw [q, show (9 : Nat) + 1 = 10 from rfl, fwP_nx, show (k + 1) / 10 = k / 10 + 1 by omega, show (k + 1) % 10 = 0 by omega]
    · rw [show (k + 1) / 10 = k / 10 by omega, show (k + 1) % 10 = k % 10 + 1 by omega]
/-- what is known of the ways after the places before K are gone through: lengths, a list of places between -/
def fwW (D : Nat → Int) (K i j : Nat) (A : List Nat) : Prop := A.Nodup ∧ (∀ v, v ∈ A → v < K ∧ v ≠ i ∧ v ≠ j ∧ D (10 * i + v) < 1000000 ∧ D (10 * v + j) < 1000000) ∧ D (10 * i + j) ≤ 99 * (A.length + 1)
def fwK (D : Nat → Int) (K : Nat) : Prop := (∀ i j, i < 10 → j < 10 → 0 ≤ D (10 * i + j) ∧ D (10 * i + j) ≤ 1000000) ∧ (∀ i, i < 10 → D (10 * i + i) = 0) ∧ (∀ i v j, i < 10 → v < K → v < 10 → j < 10 → D (10 * i + j) ≤ D (10 * i + v) + D (10 * v + j)) ∧ (∀ i v j, i < 10 → v < K → v < 10 → j < 10 → D (10 * i + v) < 1000000 → D (10 * v + j) < 1000000 → D (10 * i + j) < 1000000) ∧ ∀ i j, i < 10 → j < 10 → D (10 * i + j) < 1000000 → ∃ A, fwW D K i j A
theorem nd_lt : ∀ (K : Nat) (A : List Nat), A.Nodup → (∀ v, v ∈ A → v < K) → A.length ≤ K := by
  intro K
  induction K with
  | zero =>
    intro A _ h
    cases A with
    | nil => exact Nat.le_refl _
    | cons x A => exact absurd (h x (List.mem_cons_self)) (Nat.not_lt_zero x)
  | succ K ih =>
    intro A hn h
    have h1 := ih (A.erase K) (hn.erase K) (fun v hv => by
      have m1 := List.mem_of_mem_erase hv
      have := h v m1
      have ne : v ≠ K := fun e => by
        subst e
        exact (List.Nodup.not_mem_erase hn) hv
      omega)
    have := List.length_erase (a := K) (l := A)
    split at this <;> omega
theorem fwK_bd {D : Nat → Int} {K : Nat} (hK : K ≤ 10) (h : fwK D K) {i j : Nat} (hi : i < 10) (hj : j < 10) (hd : D (10 * i + j) < 1000000) : D (10 * i + j) ≤ 990 := by
  obtain ⟨A, a1, a2, a3⟩ := h.2.2.2.2 i j hi hj hd
  have := nd_lt 10 (i :: A) (List.nodup_cons.mpr ⟨fun q => (a2 i q).2.1 rfl, a1⟩) (fun v hv => by
    rcases List.mem_cons.mp hv with q | q
    · omega
    · have := (a2 v q).1; omega)
  simp only [List.length_cons] at this
  omega
theorem fwK_step {D E : Nat → Int} {K : Nat} (hK : K < 10) (h : fwK D K) (e : ∀ i j, i < 10 → j < 10 → E (10 * i + j) = min (D (10 * i + j)) (D (10 * i + K) + D (10 * K + j))) : fwK E (K + 1) := by
  have bd : ∀ i j, i < 10 → j < 10 → D (10 * i + j) < 1000000 → D (10 * i + j) ≤ 990 := fun i j hi hj hd => fwK_bd (by omega) h hi hj hd
  obtain ⟨h1, h2, h3, h4, h5⟩ := h
  have le : ∀ i j, i < 10 → j < 10 → E (10 * i + j) ≤ D (10 * i + j) := fun i j hi hj => by rw [e i j hi hj]; omega
  have fin : ∀ i j, i < 10 → j < 10 → E (10 * i + j) < 1000000 → D (10 * i + j) < 1000000 ∨ (D (10 * i + K) < 1000000 ∧ D (10 * K + j) < 1000000) := fun i j hi hj hE => by
    rw [e i j hi hj] at hE
    have a := h1 i K hi hK
    have b := h1 K j hK hj
    omega
  have bE : ∀ i j, i < 10 → j < 10 → E (10 * i + j) < 1000000 → E (10 * i + j) ≤ 1980 := fun i j hi hj hE => by
    rcases fin i j hi hj hE with q | ⟨q1, q2⟩
    · have := bd i j hi hj q; have := le i j hi hj; omega
    · have b1 := bd i K hi hK q1
      have b2 := bd K j hK hj q2
      rw [e i j hi hj]
      omega
  have tri : ∀ i v j, i < 10 → v < K + 1 → v < 10 → j < 10 → E (10 * i + j) ≤ E (10 * i + v) + E (10 * v + j) := by
    intro i v j hi hv hv2 hj
    rw [e i j hi hj, e i v hi hv2, e v j hv2 hj]
    have a1 := h1 i K hi hK
    have a2 := h1 K j hK hj
    have a3 := h1 v K hv2 hK
    have a4 := h1 K v hK hv2
    rcases Nat.lt_or_ge v K with q | q
    · have t1 := h3 i v j hi q hv2 hj
      have t2 := h3 K v j hK q hv2 hj
      have t3 := h3 i v K hi q hv2 hK
      omega
    · obtain rfl : v = K := by omega
      have z := h2 v hK
      rw [z]
      omega
  have lt : ∀ a b, a < 10 → b < 10 → D (10 * a + b) < 1000000 → E (10 * a + b) < 1000000 := fun a b ha hb hd => Int.lt_of_le_of_lt (le a b ha hb) hd
  have via : ∀ a b, a < 10 → b < 10 → D (10 * a + K) < 1000000 → D (10 * K + b) < 1000000 → E (10 * a + b) < 1000000 := fun a b ha hb q1 q2 => by
    have b1 := bd a K ha hK q1
    have b2 := bd K b hK hb q2
    rw [e a b ha hb]
    omega
  refine ⟨fun i j hi hj => ?_, fun i hi => ?_, tri, fun i v j hi hv hv2 hj f1 f2 => ?_, fun i j hi hj hE => ?_⟩
  · rw [e i j hi hj]
    have a := h1 i j hi hj
    have b := h1 i K hi hK
    have c := h1 K j hK hj
    omega
  · rw [e i i hi hi, h2 i hi]
    have b := h1 i K hi hK
    have c := h1 K i hK hi
    omega
  · have t := tri i v j hi hv hv2 hj
    have b1 := bE i v hi hv2 f1
    have b2 := bE v j hv2 hj f2
    omega
  · by_cases q : D (10 * i + j) < 1000000
    · obtain ⟨A, a1, a2, a3⟩ := h5 i j hi hj q
      refine ⟨A, a1, fun v hv => ?_, by have := le i j hi hj; omega⟩
      obtain ⟨b1, b2, b3, b4, b5⟩ := a2 v hv
      exact ⟨by omega, b2, b3, lt i v hi (by omega) b4, lt v j (by omega) hj b5⟩
    · obtain ⟨q1, q2⟩ := (fin i j hi hj hE).resolve_left q
      obtain ⟨A, a1, a2, a3⟩ := h5 i K hi hK q1
      obtain ⟨B, c1, c2, c3⟩ := h5 K j hK hj q2
      have nKi : K ≠ i := fun y => q (by rw [y] at q2; exact q2)
      have nKj : K ≠ j := fun y => q (by rw [y] at q1; exact q1)
      refine ⟨A ++ K :: B, ?_, fun v hv => ?_, ?_⟩
      · refine List.nodup_append.mpr ⟨a1, List.nodup_cons.mpr ⟨fun y => by have := (c2 K y).1; omega, c1⟩, fun x hx y hy => ?_⟩
        rintro rfl
        rcases List.mem_cons.mp hy with w | w
        · have := (a2 x hx).1; omega
        · have g1 := a2 x hx
          have g2 := c2 x w
          exact q (h4 i x j hi g1.1 (by omega) hj g1.2.2.2.1 g2.2.2.2.2)
      · rcases List.mem_append.mp hv with w | w
        · obtain ⟨b1, b2, b3, b4, b5⟩ := a2 v w
          refine ⟨by omega, b2, fun y => q (by rw [y] at b4; exact b4), lt i v hi (by omega) b4, via v j (by omega) hj b5 q2⟩
        · rcases List.mem_cons.mp w with w | w
          · subst w
            exact ⟨by omega, nKi, nKj, lt i v hi hK q1, lt v j hK hj q2⟩
          · obtain ⟨b1, b2, b3, b4, b5⟩ := c2 v w
            refine ⟨by omega, fun y => q (by rw [y] at b5; exact b5), b3, via i v hi (by omega) q1 b4, lt v j (by omega) hj b5⟩
      · have : E (10 * i + j) ≤ D (10 * i + K) + D (10 * K + j) := by rw [e i j hi hj]; omega
        simp only [List.length_append, List.length_cons]
        omega
theorem fwK_0 {R : Nat → Int} (h : ∀ j, j < 100 → R j = 1000000 ∨ (1 ≤ R j ∧ R j ≤ 99)) : fwK (dgR R 10) 0 := by
  have d0 : ∀ i, i < 10 → dgR R 10 (10 * i + i) = 0 := fun i hi => by
    unfold dgR
    rw [if_pos (by omega)]
  have d1 : ∀ i j, i < 10 → j < 10 → i ≠ j → dgR R 10 (10 * i + j) = R (10 * i + j) := fun i j hi hj hij => by
    unfold dgR
    rw [if_neg (by omega)]
  refine ⟨fun i j hi hj => ?_, d0, fun i v j _ hv => absurd hv (Nat.not_lt_zero v), fun i v j _ hv => absurd hv (Nat.not_lt_zero v), fun i j hi hj hd => ⟨[], List.nodup_nil, fun v hv => absurd hv (List.not_mem_nil), ?_⟩⟩
  · by_cases q : i = j
    · subst q; rw [d0 i hi]; omega
    · rw [d1 i j hi hj q]; have := h (10 * i + j) (by omega); omega
  · by_cases q : i = j
    · subst q; rw [d0 i hi]; omega
    · rw [d1 i j hi hj q] at hd ⊢; have := h (10 * i + j) (by omega); simp only [List.length_nil]; omega
theorem fwT_K {R : Nat → Int} (h : ∀ j, j < 100 → R j = 1000000 ∨ (1 ≤ R j ∧ R j ≤ 99)) : fwK (fwT R) 10 := by
  have go : ∀ K, K ≤ 10 → fwK (fwN (dgR R 10) (100 * K)) K := by
    intro K
    induction K with
    | zero => intro _; exact fwK_0 h
    | succ K ih =>
      intro hK
      have i1 := ih (by omega)
      refine fwK_step (by omega) i1 (fun i j hi hj => ?_)
      have := fwN_in (T0 := dgR R 10) (D := fwN (dgR R 10) (100 * K)) (o := K) (by omega) (i1.2.1 K (by omega)) (fun _ _ => rfl) 100 (Nat.le_refl _) (10 * i + j) (by omega)
      rw [show 100 * (K + 1) = 100 * K + 100 by omega, this]
      unfold fwP
      rw [if_pos (by omega), show (10 * i + j) / 10 = i by omega, show (10 * i + j) % 10 = j by omega]
  exact go 10 (Nat.le_refl _)
