/-! Both objects: the tour that is planned. -/
/-- what the rows of a tour say of its trips -/
def tbO (m : mz_M) (q : Nat) (cd pp : Nat → Nat) (Ln : Nat → Int) (f0 : Nat) : tR → Prop
  | [] => True
  | x :: R => (m (q + 7) R.length = cd x.1 ∧ m (q + 8) R.length = pp x.2 ∧ m (q + 9) R.length = Ln ((ndF f0 R * 6 + x.1) * 2 + x.2)) ∧ tbO m q cd pp Ln f0 R
theorem tbO_congr {m m' : mz_M} {q : Nat} {cd pp : Nat → Nat} {Ln : Nat → Int} {f0 : Nat} : ∀ {R : tR}, (∀ k, k < R.length → m' (q + 7) k = m (q + 7) k ∧ m' (q + 8) k = m (q + 8) k ∧ m' (q + 9) k = m (q + 9) k) → tbO m q cd pp Ln f0 R → tbO m' q cd pp Ln f0 R := by
  intro R
  induction R with
  | nil => intros; trivial
  | cons x R ih =>
    intro hk ho
    have e := hk R.length (by simp only [List.length_cons]; omega)
    refine ⟨?_, ih (fun k hk2 => hk k (by simp only [List.length_cons]; omega)) ho.2⟩
    rw [e.1, e.2.1, e.2.2]
    exact ho.1
theorem tbO_sm {m : mz_M} {q : Nat} {cd pp : Nat → Nat} {Ln : Nat → Int} {f0 : Nat} : ∀ {R : tR}, tbO m q cd pp Ln f0 R → sm (m (q + 9)) R.length = ndL Ln f0 R := by
  intro R
  induction R with
  | nil => intro _; rfl
  | cons x R ih =>
    intro h
    show sm (m (q + 9)) R.length + m (q + 9) R.length = ndL Ln f0 R + _
    rw [ih h.2, h.1.2.2]
theorem tbO_rg {m : mz_M} {q : Nat} {cd pp : Nat → Nat} {Rm Ln Tb : Nat → Int} {pn cn f0 : Nat} (hx : tX Rm Ln Tb pn cn f0) : ∀ {R : tR}, ndV pn cn R → tbO m q cd pp Ln f0 R → (∀ x, x ∈ R → x.1 < cn ∧ x.2 < pn) := by
  intro R
  induction R with
  | nil => intro _ _ x hx'; exact absurd hx' (List.not_mem_nil)
  | cons y R ih =>
    intro hv h x hm
    rcases List.mem_cons.mp hm with q | q
    · rw [q]; exact ⟨hv.1.1, hv.1.2.1⟩
    · exact ih hv.2 h.2 x q
theorem tbS_o {q cn pn : Nat} : ∀ (r a b f : Nat) (m : mz_M) (c j : Nat), c ≠ q + 7 → c ≠ q + 8 → c ≠ q + 9 → (c ≠ q ∨ j ≠ 11) → tbS q cn pn r a b f m c j = m c j := by
  intro r
  induction r with
  | zero => intros; rfl
  | succ r ih =>
    intro a b f m c j h7 h8 h9 h
    rw [tbS]
    split
    · rfl
    · rw [ih _ _ _ _ c j h7 h8 h9 h]
      exact adT_o h7 h8 h9 h
/-- all lengths of trips that are made are short -/
def tlO (Ln : Nat → Int) (f0 : Nat) : tR → Prop
  | [] => True
  | x :: R => (0 ≤ Ln ((ndF f0 R * 6 + x.1) * 2 + x.2) ∧ Ln ((ndF f0 R * 6 + x.1) * 2 + x.2) ≤ 2000) ∧ tlO Ln f0 R
theorem tb_gx {q : Nat} {cd pp : Nat → Nat} {Rm Ln Tb : Nat → Int} {pn cn f0 : Nat} (hx : tX Rm Ln Tb pn cn f0) : ∀ (r : Nat) (R : tR) (m : mz_M), ndV pn cn R → (m (q + 4) = Rm ∧ m (q + 5) = Ln ∧ m (q + 6) = Tb) → (∀ i, i < cn → m (q + 1) i = cd i) → (∀ t, t < pn → m (q + 3) t = pp t) → m q 11 = R.length → tbO m q cd pp Ln f0 R → tlO Ln f0 R →
    (tbS q cn pn r (ndA R) (ndB R) (ndF f0 R) m q 11 = (gx Rm Ln Tb pn cn f0 r R).length ∧ tbO (tbS q cn pn r (ndA R) (ndB R) (ndF f0 R) m) q cd pp Ln f0 (gx Rm Ln Tb pn cn f0 r R) ∧ ndV pn cn (gx Rm Ln Tb pn cn f0 r R) ∧ tlO Ln f0 (gx Rm Ln Tb pn cn f0 r R)) := by
  intro r
  induction r with
  | zero => intro R m hv h4 h1 h3 h11 ho hl; exact ⟨h11, ho, hv, hl⟩
  | succ r ih =>
    intro R m hv h4 h1 h3 h11 ho hl
    have eW : woM m q (ndA R) (ndB R) (ndF f0 R) = gV Rm Ln Tb f0 R := by
      funext i t
      show woF (m (q + 4)) (m (q + 5)) (m (q + 6)) _ _ _ i t = _
      rw [h4.1, h4.2.1, h4.2.2]
      rfl
    rw [tbS, gx, eW]
    rcases sbF_ok (g := gV Rm Ln Tb f0 R) (pn := pn) (cn := cn) with h | ⟨i, t, hi, ht, he, hp⟩
    · rw [if_pos h, if_pos h]
      exact ⟨h11, ho, hv, hl⟩
    · have hpn := hx.2.1
      have ne : ¬ sbF (gV Rm Ln Tb f0 R) pn cn = -1 := by omega
      rw [if_neg ne, if_neg ne]
      have e1 : (sbF (gV Rm Ln Tb f0 R) pn cn).toNat / 2 = i := by rw [he]; omega
      have e2 : (sbF (gV Rm Ln Tb f0 R) pn cn).toNat % 2 = t := by rw [he]; omega
      rw [e1, e2]
      have nd : ¬ gD Rm Ln f0 R i t := fun y => by have := gV_no (Tb := Tb) y; omega
      have g := gV_ok hx hv hi ht nd
      have ln := hx.2.2.2.1 (ndF f0 R) i t (by
        cases R with
        | nil => exact hx.2.2.1
        | cons x R => exact hv.1.2.1) hi ht
      have fin : Ln ((ndF f0 R * 6 + i) * 2 + t) < 1000000 := by
        unfold gD at nd
        omega
      have key := ih ((i, t) :: R) (adT m q (ndF f0 R) i t) g.1 ⟨?_, ?_, ?_⟩ ?_ ?_ ?_ ?_ ⟨⟨ln.1, ln.2 fin⟩, hl⟩
      · exact key
      · funext j; rw [adT_o (by omega) (by omega) (by omega) (by omega), h4.1]
      · funext j; rw [adT_o (by omega) (by omega) (by omega) (by omega), h4.2.1]
      · funext j; rw [adT_o (by omega) (by omega) (by omega) (by omega), h4.2.2]
      · intro k hk; rw [adT_o (by omega) (by omega) (by omega) (by omega)]; exact h1 k hk
      · intro k hk; rw [adT_o (by omega) (by omega) (by omega) (by omega)]; exact h3 k hk
      · unfold adT
        rw [up_s, h11]
        simp only [List.length_cons]
        omega
      · have en : (m q 11).toNat = R.length := by rw [h11]; omega
        have lo : ∀ k, k < R.length → adT m q (ndF f0 R) i t (q + 7) k = m (q + 7) k ∧ adT m q (ndF f0 R) i t (q + 8) k = m (q + 8) k ∧ adT m q (ndF f0 R) i t (q + 9) k = m (q + 9) k := fun k hk => by
          unfold adT
          rw [en]
          simp (disch := omega) only [up_o, up_k]
          exact ⟨trivial, trivial, trivial⟩
        refine ⟨⟨?_, ?_, ?_⟩, tbO_congr lo ho⟩
        · unfold adT
          rw [en]
          simp (disch := omega) only [up_o, up_s]
          exact h1 i hi
        · unfold adT
          rw [en]
          simp (disch := omega) only [up_o, up_s]
          exact h3 t ht
        · unfold adT
          rw [en]
          simp (disch := omega) only [up_o, up_s]
          rw [h4.2.1]
/-- the first trip -/
def ls0 : tR → Nat × Nat
  | [] => (0, 0)
  | [x] => x
  | _ :: y :: R => ls0 (y :: R)
theorem ls0_ar {c : Nat → Int} {h : Nat × Nat → Int} : ∀ {R : tR}, R ≠ [] → arO c h R → c 0 = h (ls0 R) := by
  intro R
  induction R with
  | nil => intro q; exact absurd rfl q
  | cons x R ih =>
    intro _ ho
    cases R with
    | nil => exact ho.1
    | cons y R => exact ih (by simp) ho.2
theorem ls0_tb {m : mz_M} {q : Nat} {cd pp : Nat → Nat} {Ln : Nat → Int} {f0 : Nat} : ∀ {R : tR}, R ≠ [] → tbO m q cd pp Ln f0 R → m (q + 7) 0 = cd (ls0 R).1 ∧ m (q + 8) 0 = pp (ls0 R).2 ∧ m (q + 9) 0 = Ln ((f0 * 6 + (ls0 R).1) * 2 + (ls0 R).2) := by
  intro R
  induction R with
  | nil => intro q; exact absurd rfl q
  | cons x R ih =>
    intro _ ho
    cases R with
    | nil => exact ho.1
    | cons y R => exact ih (by simp) ho.2
theorem ls0_v {pn cn : Nat} : ∀ {R : tR}, R ≠ [] → ndV pn cn R → (ls0 R).1 < cn ∧ (ls0 R).2 < pn := by
  intro R
  induction R with
  | nil => intro q; exact absurd rfl q
  | cons x R ih =>
    intro _ hv
    cases R with
    | nil => exact ⟨hv.1.1, hv.1.2.1⟩
    | cons y R => exact ih (by simp) hv.2
theorem ls0_l {Ln : Nat → Int} {f0 : Nat} : ∀ {R : tR}, R ≠ [] → tlO Ln f0 R → 0 ≤ Ln ((f0 * 6 + (ls0 R).1) * 2 + (ls0 R).2) ∧ Ln ((f0 * 6 + (ls0 R).1) * 2 + (ls0 R).2) ≤ 2000 := by
  intro R
  induction R with
  | nil => intro q; exact absurd rfl q
  | cons x R ih =>
    intro _ hl
    cases R with
    | nil => exact hl.1
    | cons y R => exact ih (by simp) hl.2
theorem tlO_len {m : mz_M} {q : Nat} {cd pp : Nat → Nat} {Ln : Nat → Int} {f0 : Nat} : ∀ {R : tR}, tlO Ln f0 R → tbO m q cd pp Ln f0 R → ∀ k, k < R.length → 0 ≤ m (q + 9) k ∧ m (q + 9) k ≤ 2000 := by
  intro R
  induction R with
  | nil => intro _ _ k hk; exact absurd hk (Nat.not_lt_zero k)
  | cons x R ih =>
    intro hl ho k hk
    simp only [List.length_cons] at hk
    rcases Nat.lt_or_ge k R.length with w | w
    · exact ih hl.2 ho.2 k w
    · obtain rfl : k = R.length := by omega
      rw [ho.1.2.2]
      exact hl.1
/-- the first trip of a tour has room -/
theorem gx_room {Rm Ln Tb : Nat → Int} {pn cn f0 : Nat} (hx : tX Rm Ln Tb pn cn f0) : ∀ (r : Nat) (R : tR), ndV pn cn R → (R = [] ∨ 0 < Rm (ls0 R).2) → gx Rm Ln Tb pn cn f0 r R = [] ∨ 0 < Rm (ls0 (gx Rm Ln Tb pn cn f0 r R)).2 := by
  intro r
  induction r with
  | zero => intro R _ h; exact h
  | succ r ih =>
    intro R hv h
    rw [gx]
    rcases sbF_ok (g := gV Rm Ln Tb f0 R) (pn := pn) (cn := cn) with q | ⟨i, t, hi, ht, he, hp⟩
    · rw [if_pos q]; exact h
    · have hpn := hx.2.1
      rw [if_neg (by omega)]
      have e1 : (sbF (gV Rm Ln Tb f0 R) pn cn).toNat / 2 = i := by rw [he]; omega
      have e2 : (sbF (gV Rm Ln Tb f0 R) pn cn).toNat % 2 = t := by rw [he]; omega
      rw [e1, e2]
      have nd : ¬ gD Rm Ln f0 R i t := fun y => by have := gV_no (Tb := Tb) y; omega
      refine ih ((i, t) :: R) (gV_ok hx hv hi ht nd).1 (Or.inr ?_)
      cases R with
      | nil =>
        show 0 < Rm t
        unfold gD at nd
        have : pop (ndA []) 16 = 0 := rfl
        have e3 : ndB [] = 0 := rfl
        rw [this, e3] at nd
        split at nd <;> omega
      | cons y R =>
        rcases h with q | q
        · cases q
        · exact q
theorem nx_gx {Rm Ln Tb : Nat → Int} {pn cn f0 : Nat} : nxQ Rm Ln Tb pn cn f0 [] [] = gx Rm Ln Tb pn cn f0 cn [] := by
  unfold nxQ
  by_cases q : sc Ln f0 [] < sc Ln f0 [] + wT Rm Ln Tb pn cn f0 []
  · rw [if_pos q]; rfl
  · rw [if_neg q]
    have z : ¬ 0 < bwO (gV Rm Ln Tb f0 []) pn cn := fun y => q (by unfold wT; omega)
    cases cn with
    | zero => rfl
    | succ r =>
      rw [gx, if_pos]
      unfold sbF
      rw [if_neg z]
/-- the candidates, in both objects -/
theorem ch_mc {m : mz_M} {N : Nat} (hw : RW m 18 (m 154) N) (X : Nat → Int) : ∀ j, j ≤ 16 → (chS m 140 18 (bs (ctt m 18) 16) j).2 = mcN (m 154) j ∧ ∀ i, i < mcN (m 154) j → i < 6 → ∃ c, c < 16 ∧ mcX (m 154) X j i = ((c : Nat) : Int) ∧ (chS m 140 18 (bs (ctt m 18) 16) j).1 141 i = c ∧ (chS m 140 18 (bs (ctt m 18) 16) j).1 142 i = m (18 + 24 + c) 2 ∧ m (18 + 24 + c) 1 = 2 := by
  intro j
  induction j with
  | zero => intro _; exact ⟨rfl, fun i hi => absurd hi (Nat.not_lt_zero i)⟩
  | succ j ih =>
    intro hj
    obtain ⟨i1, i2⟩ := ih (by omega)
    have hS : sm (mAh (m 154) j) 16 = sm (ccN m 18 (18 + 24 + j) (bs (ctt m 18) 16)) 16 := sm_congr fun k hk => q_ah hw (by omega) hk
    have hP : (bs (ctt m 18) 16 / 2 ^ j % 2 = 1 ∧ sm (ccN m 18 (18 + 24 + j) (bs (ctt m 18) 16)) 16 < 6) ↔ mcP (m 154) j = true := by
      unfold mcP
      rw [bs_tb _ (show j < 16 by omega), hS, q_tw hw (show j < 16 by omega)]
      simp only [decide_eq_true_eq]
      cases ctt m 18 j <;> simp
    unfold chS mcN mcX
    by_cases q : mcP (m 154) j = true
    · rw [if_pos (hP.mpr q), if_pos q, if_pos q]
      refine ⟨by show _ + 1 = _; rw [i1], fun i hi h6 => ?_⟩
      simp only
      rw [up_o (by omega), up_o (by omega), i1]
      by_cases y : i = mcN (m 154) j
      · refine ⟨j, by omega, ?_, ?_, ?_, ?_⟩
        · exact vU_e y
        · rw [ptU_o (by omega)]
          unfold ptU
          rw [if_pos (by omega), y, up_s]
        · unfold ptU
          rw [if_pos (by omega), y, up_s]
        · unfold mcP mTw at q
          simp only [decide_eq_true_eq] at q
          have a := (hw.2.2.2.1 j (by omega)).1
          rw [← a.2.1]
          exact q.1.1
      · obtain ⟨c, c1, c2, c3, c4, c5⟩ := i2 i (by omega) h6
        refine ⟨c, c1, ?_, ?_, ?_, c5⟩
        · rw [vU_n y]; exact c2
        · rw [ptU_o (by omega)]
          unfold ptU
          split
          · rw [up_k (by omega)]; exact c3
          · exact c3
        · unfold ptU
          split
          · rw [up_k (by omega), up_o (by omega)]; exact c4
          · omega
    · rw [if_neg (fun y => q (hP.mp y)), if_neg q, if_neg q]
      exact ⟨i1, i2⟩
/-- the pounds that are chosen -/
theorem cp_pp {m : mz_M} (h2 : sm (fun p => if 0 < m (18 + 4) p then 1 else 0) 10 ≤ 2) : ∀ j, j ≤ 10 → ((cpS m 140 18 j).2 : Int) = sm (fun p => if 0 < m (18 + 4) p then 1 else 0) j ∧ (∀ t, t < (cpS m 140 18 j).2 → ∃ p, p < j ∧ 0 < m (18 + 4) p ∧ (cpS m 140 18 j).1 143 t = ((p : Nat) : Int) ∧ (cpS m 140 18 j).1 144 t = m (18 + 4) p - sm (pnd m 18 p) 16) ∧ (∀ p, p < j → 0 < m (18 + 4) p → ∃ t, t < (cpS m 140 18 j).2 ∧ (cpS m 140 18 j).1 143 t = p) ∧ ∀ s t, s < t → t < (cpS m 140 18 j).2 → (cpS m 140 18 j).1 143 s < (cpS m 140 18 j).1 143 t := by
  intro j
  induction j with
  | zero => intro _; exact ⟨rfl, fun t ht => absurd ht (Nat.not_lt_zero t), fun p hp => absurd hp (Nat.not_lt_zero p), fun s t _ ht => absurd ht (Nat.not_lt_zero t)⟩
  | succ j ih =>
    intro hj
    obtain ⟨i1, i2, i3, i4⟩ := ih (by omega)
    have mono := sm_mono (f := fun p => if 0 < m (18 + 4) p then 1 else 0) (n := j + 1) (n' := 10) hj (fun p _ => by split <;> omega)
    rw [sm] at mono
    unfold cpS
    by_cases q : 0 < m (18 + 4) j
    · rw [if_pos q] at mono
      rw [if_pos ⟨q, by omega⟩]
      have r3 : ∀ t, (mz_up (mz_up (mz_up (cpS m 140 18 j).1 (140 + 3) (cpS m 140 18 j).2 j) (140 + 4) (cpS m 140 18 j).2 (m (18 + 4) j - sm (pnd m 18 j) 16)) 140 10 (((cpS m 140 18 j).2 + 1 : Nat) : Int)) 143 t = if t = (cpS m 140 18 j).2 then (j : Int) else (cpS m 140 18 j).1 143 t := fun t => by
        rw [up_o (by omega), up_o (by omega), up_at]
        simp
      have r4 : ∀ t, (mz_up (mz_up (mz_up (cpS m 140 18 j).1 (140 + 3) (cpS m 140 18 j).2 j) (140 + 4) (cpS m 140 18 j).2 (m (18 + 4) j - sm (pnd m 18 j) 16)) 140 10 (((cpS m 140 18 j).2 + 1 : Nat) : Int)) 144 t = if t = (cpS m 140 18 j).2 then m (18 + 4) j - sm (pnd m 18 j) 16 else (cpS m 140 18 j).1 144 t := fun t => by
        rw [up_o (by omega), up_at, up_o (by omega)]
        simp
      simp only [r3, r4]
      refine ⟨?_, fun t ht => ?_, fun p hp hp0 => ?_, fun s t hst ht => ?_⟩
      · rw [sm, if_pos q, ← i1]; omega
      · by_cases y : t = (cpS m 140 18 j).2
        · rw [if_pos y, if_pos y]
          exact ⟨j, by omega, q, rfl, rfl⟩
        · rw [if_neg y, if_neg y]
          obtain ⟨p, p1, p2, p3, p4⟩ := i2 t (by omega)
          exact ⟨p, by omega, p2, p3, p4⟩
      · by_cases y : p = j
        · exact ⟨(cpS m 140 18 j).2, by omega, by rw [if_pos rfl, y]⟩
        · obtain ⟨t, t1, t2⟩ := i3 p (by omega) hp0
          exact ⟨t, by omega, by rw [if_neg (by omega)]; exact t2⟩
      · rw [if_neg (show ¬ s = (cpS m 140 18 j).2 by omega)]
        by_cases y : t = (cpS m 140 18 j).2
        · rw [if_pos y]
          obtain ⟨p, p1, p2, p3, p4⟩ := i2 s (by omega)
          rw [p3]
          omega
        · rw [if_neg y]
          exact i4 s t hst (by omega)
    · rw [if_neg (fun y => q y.1)]
      refine ⟨by rw [sm, if_neg q]; omega, fun t ht => ?_, fun p hp hp0 => ?_, i4⟩
      · obtain ⟨p, p1, p2⟩ := i2 t ht
        exact ⟨p, by omega, p2⟩
      · by_cases y : p = j
        · subst y; exact absurd hp0 q
        · exact i3 p (by omega) hp0
theorem tour_all {m : mz_M} (h : Rel m) : ∃ (M1 : mz_M) (Q : tR) (cd pp : Nat → Nat) (Ln : Nat → Int) (f0 : Nat), sp 262 [mz_r 3 0 140, mz_r 6 0 18] m none M1 ∧ (∀ a, a < 140 ∨ 149 < a → M1 a = m a) ∧ (lnO (M1 145) ∧ woB (M1 146)) ∧ (M1 140 11 = Q.length ∧ Q.length ≤ 6 ∧ tbO M1 140 cd pp Ln f0 Q ∧ tlO Ln f0 Q) ∧
    (Q ≠ [] → ∃ c q p tr : Nat, c = cd (ls0 Q).1 ∧ p = pp (ls0 Q).2 ∧ c < 16 ∧ q < 10 ∧ p < 10 ∧ tr < 10 ∧ m (18 + 24 + c) 2 = q ∧ m 18 4 = tr ∧ m (18 + 24 + c) 1 = 2 ∧ Ln ((f0 * 6 + (ls0 Q).1) * 2 + (ls0 Q).2) = m 24 (10 * tr + q) + m 24 (10 * q + p) + 10 ∧ (p : Int) < m (18 + 1) 0 ∧ sm (pnd m 18 p) 16 < m (18 + 4) p) ∧
    ∀ m2 : mz_M, m2 154 = m 154 → m2 159 = m 159 → ∃ M2, sp 293 [mz_r 9 0 153] m2 none M2 ∧ M2 153 19 = Q.length ∧ M2 153 20 = ndL Ln f0 Q ∧ arO (M2 162) (fun x => cd x.1) Q ∧ arO (M2 163) (fun x => pp x.2) Q ∧ (∀ a, a ≠ 153 → (a < 159 ∨ 164 < a) → M2 a = m2 a) ∧ ∀ j, j ≠ 18 → j ≠ 19 → j ≠ 20 → M2 153 j = m2 153 j := by
  obtain ⟨N, hw⟩ := h.1
  obtain ⟨hL, hWo, _, _⟩ := h.2.2.2.1
  have hs := RW_sz hw
  obtain ⟨n, hn⟩ := nat_i (show 0 ≤ m (18 + 1) 0 by omega)
  have tw := hw.1.1
  have tm := hw.2.1
  have cn0 := RW_cnO hw
  have hpl : ∀ c, c < 16 → 0 ≤ m (18 + 24 + c) 2 ∧ m (18 + 24 + c) 2 < 10 := fun c hc => by have := (hw.2.2.2.1 c hc).2.1; omega
  have hpd : ∀ p, p < 10 → 0 ≤ m (18 + 4) p ∧ m (18 + 4) p ≤ 1000 := fun p hp => by
    have := (tw.2.2.2.1 p hp).1
    show 0 ≤ m (18 + 1 + 3) p ∧ m (18 + 1 + 3) p ≤ 1000
    omega
  have hW := RW_way hw
  obtain ⟨T', hT', hk⟩ := sp_tplan m (q := 140) (u := 18) (n := n) cn0 (by have := tm.1; omega) hpl (by omega) hn hpd hW (by omega) hL hWo
  have hA : ∀ b, b < 140 → (tpA m 140 18).1 b = m b := fun b hb => by
    funext i
    exact (chS_ok (m := m) (q := 140) (u := 18) (a := bs (ctt m 18) 16) 16).2.2 b i (by omega) (by omega) (by omega)
  have hC := tpC_tp (m := m) (q := 140) (u := 18) (n := n) cn0 hpl (by omega) hW (by omega) hL hWo
  have chm := ch_mc hw (m 159) 16 (Nat.le_refl _)
  have ch6 := chS_6 (m := m) (q := 140) (u := 18) (a := bs (ctt m 18) 16) cn0
  -- the pounds
  have e22 : (tpA m 140 18).1 (18 + 4) = m (18 + 4) := hA _ (by omega)
  have ePn : ∀ p : Nat, sm (pnd (tpA m 140 18).1 18 p) 16 = sm (pnd m 18 p) 16 := fun p => sm_congr fun c hc => pnd_congr (fun b hb => hA b (by omega)) hc
  have h2p : sm (fun p => if 0 < (tpA m 140 18).1 (18 + 4) p then 1 else 0) 10 ≤ 2 := by
    rw [e22]
    have := tw.2.2.1
    show sm (fun p => if 0 < m (18 + 1 + 3) p then 1 else 0) 10 ≤ 2
    rw [← this.1]
    exact this.2
  obtain ⟨p1, p2, p3, p4⟩ := cp_pp (m := (tpA m 140 18).1) h2p n (by omega)
  simp only [e22, ePn] at p1 p2 p3
  rw [show cpS (tpA m 140 18).1 140 18 n = tpB m 140 18 n from rfl] at p1 p2 p3 p4
  have hB : ∀ b i, b ≠ 143 → b ≠ 144 → b ≠ 140 → (tpB m 140 18 n).1 b i = (tpA m 140 18).1 b i := fun b i h1 h2 h3 => (cpS_ok (m := (tpA m 140 18).1) (q := 140) (u := 18) n).2.2 b i (by omega) (by omega) (by omega)
  rw [show chS m 140 18 (bs (ctt m 18) 16) 16 = tpA m 140 18 from rfl] at chm ch6
  have c24 : (tpB m 140 18 n).1 24 = m 24 := by
    rw [tpB_o (by omega)]
  have mtv : ∀ f i t, f < (tpB m 140 18 n).2 → i < (tpA m 140 18).2 → t < (tpB m 140 18 n).2 → tpC m 140 18 n 145 ((f * 6 + i) * 2 + t) = m 24 (10 * ((tpB m 140 18 n).1 143 f).toNat + ((tpB m 140 18 n).1 142 i).toNat) + m 24 (10 * ((tpB m 140 18 n).1 142 i).toNat + ((tpB m 140 18 n).1 143 t).toNat) + 10 := fun f i t hf hi ht => by
    have hpn := hC.2.2.2.1
    have hcn := hC.2.2.1
    unfold tpC
    rw [show (145 : Nat) = 140 + 5 from rfl, rowS_at (by omega)]
    unfold mtT
    rw [show ((f * 6 + i) * 2 + t) / 12 = f by omega, show ((f * 6 + i) * 2 + t) / 2 % 6 = i by omega, show ((f * 6 + i) * 2 + t) % 2 = t by omega, if_pos ⟨⟨hf, hi, ht⟩, Or.inl hf⟩]
    unfold mtL
    rw [show ((f * 6 + i) * 2 + t) / 12 = f by omega, show ((f * 6 + i) * 2 + t) / 2 % 6 = i by omega, show ((f * 6 + i) * 2 + t) % 2 = t by omega]
    show (tpB m 140 18 n).1 24 _ + (tpB m 140 18 n).1 24 _ + 10 = _
    rw [c24]
  have r143 : tpC m 140 18 n 143 = (tpB m 140 18 n).1 143 := by funext j; exact rowS_o (by omega)
  have r144 : tpC m 140 18 n 144 = (tpB m 140 18 n).1 144 := by funext j; exact rowS_o (by omega)
  have r141 : tpC m 140 18 n 141 = (tpA m 140 18).1 141 := by funext j; rw [show tpC m 140 18 n 141 j = (tpB m 140 18 n).1 141 j from rowS_o (by omega), hB _ _ (by omega) (by omega) (by omega)]
  have r142 : ∀ j, tpC m 140 18 n 142 j = (tpA m 140 18).1 142 j := fun j => by rw [show tpC m 140 18 n 142 j = (tpB m 140 18 n).1 142 j from rowS_o (by omega), hB _ _ (by omega) (by omega) (by omega)]
  have b142 : ∀ j, (tpB m 140 18 n).1 142 j = (tpA m 140 18).1 142 j := fun j => hB _ _ (by omega) (by omega) (by omega)
  have hTo : ∀ a, a < 140 ∨ 149 < a → tpC m 140 18 n a = m a := fun a ha => tpC_o (by omega)
  generalize tpC m 140 18 n = C at hT' hk hC mtv r143 r144 r141 r142 hTo
  generalize (tpB m 140 18 n).2 = pn at hT' hk hC mtv p1 p2 p3 p4
  generalize hcA : (tpA m 140 18).2 = cn at hT' hk hC mtv chm ch6
  obtain ⟨_, _, hcn, hpn, cL, cW⟩ := hC
  -- the state before the trips are taken
  have W0 := tpO_row (m := C) (q := 140) (cn := cn) (pn := pn) (T := T') ⟨by assumption, by assumption, hcn, hpn, cL, cW⟩ hT'.1
  generalize hM0 : rowS C (140 + 6) 896 T' = M0 at hk W0
  have m0o : ∀ a, a ≠ 146 → M0 a = C a := fun a ha => by rw [← hM0]; funext j; exact rowS_o (by omega)
  have m0t : ∀ k, k < 896 → M0 146 k = T' k := fun k hk' => by rw [← hM0]; exact rowS_at hk'
  -- places of pounds
  have ppv : ∀ t, t < pn → ∃ p, p < n ∧ 0 < m (18 + 4) p ∧ M0 143 t = ((p : Nat) : Int) ∧ M0 144 t = m (18 + 4) p - sm (pnd m 18 p) 16 := fun t ht => by
    rw [m0o 143 (by omega), m0o 144 (by omega), r143, r144]
    exact p2 t ht
  have cdv : ∀ i, i < cn → ∃ c, c < 16 ∧ mcX (m 154) (m 159) 16 i = ((c : Nat) : Int) ∧ M0 141 i = c ∧ M0 142 i = m (18 + 24 + c) 2 ∧ m (18 + 24 + c) 1 = 2 := fun i hi => by
    obtain ⟨c, c1, c2, c3, c4, c5⟩ := chm.2 i (by omega) (by omega)
    refine ⟨c, c1, c2, ?_, ?_, c5⟩
    · rw [m0o 141 (by omega), r141]; exact c3
    · rw [m0o 142 (by omega), r142]; exact c4
  have mtw : ∀ f i t, f < pn → i < cn → t < pn → M0 145 ((f * 6 + i) * 2 + t) = m 24 (10 * (M0 143 f).toNat + (M0 142 i).toNat) + m 24 (10 * (M0 142 i).toNat + (M0 143 t).toNat) + 10 := fun f i t hf hi ht => by
    rw [m0o 145 (by omega), mtv f i t hf hi ht, m0o 143 (by omega), m0o 142 (by omega), r143, r142, ← b142]
  have M0o : ∀ a, a < 140 ∨ 149 < a → M0 a = m a := fun a ha => by rw [m0o a (by omega), hTo a ha]
  have U : ∀ a, a ≠ 140 → mz_up M0 140 11 0 a = M0 a := fun a ha => by funext j; exact up_o ha
  have tS : ∀ f a, a ≠ 140 → a ≠ 147 → a ≠ 148 → a ≠ 149 → tbS 140 cn pn cn 0 0 f (mz_up M0 140 11 0) a = M0 a := fun f a h1 h2 h3 h4 => by
    funext j
    rw [tbS_o _ _ _ _ _ _ _ (by omega) (by omega) (by omega) (by omega), up_o h1]
  have fr : ∀ f a, a < 140 ∨ 149 < a → tbS 140 cn pn cn 0 0 f (mz_up M0 140 11 0) a = m a := fun f a ha => by rw [tS f a (by omega) (by omega) (by omega) (by omega), M0o a ha]
  have rows : ∀ f, lnO (tbS 140 cn pn cn 0 0 f (mz_up M0 140 11 0) 145) ∧ woB (tbS 140 cn pn cn 0 0 f (mz_up M0 140 11 0) 146) := fun f => by
    rw [tS f 145 (by omega) (by omega) (by omega) (by omega), tS f 146 (by omega) (by omega) (by omega) (by omega)]
    exact ⟨W0.2.2.2.2.1, W0.2.2.2.2.2⟩
  have hS := RW_mSi hw
  have hN16 : mcN (m 154) 16 ≤ 6 := by rw [← chm.1]; exact ch6
  have hPV : ∀ p, p < 10 → 0 ≤ m 154 (223 + p) ∧ m 154 (223 + p) ≤ 1000 := fun p hp => ((RW_rows hw).1 p hp).2
  have vW : ∀ j, j < 100 → mW (m 154) j = m 24 j := fun j hj => (hw.1.2.2 j hj).2
  have v22 : ∀ p, p < 10 → m 154 (223 + p) = m (18 + 4) p := fun p hp => (hw.1.2.1.2.1 p hp).2.2
  rcases tm.2.2 with q | q
  · -- no pound
    have z : pn = 0 := by
      have : sm (fun p => if 0 < m (18 + 4) p then (1 : Int) else 0) n = sm (fun _ => 0) n := sm_congr fun p hp => by rw [q.2 p (by omega), if_neg (by omega)]
      rw [this, sm_const] at p1
      omega
    subst z
    have b0 : ∀ (g : Nat → Nat → Int) (k : Nat), bwO g 0 k = 0 := fun g k => by
      induction k with
      | zero => rfl
      | succ k ih => exact ih
    have sb : ∀ g : Nat → Nat → Int, sbF g 0 cn = -1 := fun g => by unfold sbF; rw [b0, if_neg (by omega)]
    have tz : ∀ f, tbS 140 cn 0 cn 0 0 f (mz_up M0 140 11 0) = mz_up M0 140 11 0 := fun f => by
      cases cn with
      | zero => rfl
      | succ r => rw [tbS, if_pos (sb _)]
    refine ⟨_, [], fun _ => 0, fun _ => 0, fun _ => 0, 0, hk, fr _, rows _, ⟨?_, by simp, trivial, trivial⟩, fun y => absurd rfl y, fun m2 e154 e159 => ?_⟩
    · rw [tz, up_s]; rfl
    · refine ⟨tMT (toB m2) (toT m2), to_beg m2 _ (by rw [e154]; exact hS) (by rw [e154]; exact hN16) (by rw [e154]; exact hPV) ?_, tM_g19 .., tM_g20 .., trivial, trivial, fun a h1 h2 => ?_, fun j h1 h2 h3 => ?_⟩
      · rw [if_pos (by rw [e154, tm.2.1, if_pos q.1]; omega)]
      · funext j; unfold tMT tM toB; rw [if_neg (by omega), if_neg (by omega), if_neg (by omega), if_neg (by omega), if_neg (by omega), if_neg (by omega), if_neg (by omega), if_neg (by omega), if_neg (by omega)]
      · unfold tMT tM toB; rw [if_neg (by omega), if_neg (by omega), if_neg (by omega), if_neg (by omega), if_neg (by omega), if_neg (by omega), if_neg (by omega), if_neg (by omega), if_neg (by omega)]
  · -- the truck stands at a pound
    obtain ⟨tr, htr⟩ := nat_i q.1.1
    rw [htr] at q
    simp only [Int.toNat_natCast] at q
    obtain ⟨t0, t01, t02⟩ := p3 tr (by omega) q.2
    have t02' : M0 143 t0 = tr := by rw [m0o 143 (by omega), r143]; exact t02
    have hf0 : tbF M0 pn 140 (m 18 4) < pn ∧ M0 143 (tbF M0 pn 140 (m 18 4)) = tr := by
      unfold tbF
      rw [htr]
      show (if pn = 2 ∧ M0 143 1 = (tr : Int) then 1 else 0) < pn ∧ M0 143 (if pn = 2 ∧ M0 143 1 = (tr : Int) then 1 else 0) = tr
      by_cases y : pn = 2 ∧ M0 143 1 = tr
      · rw [if_pos y]; exact ⟨by omega, y.2⟩
      · rw [if_neg y]
        have : t0 = 0 := by
          rcases (show t0 = 0 ∨ t0 = 1 by omega) with w | w
          · exact w
          · subst w; exact absurd ⟨by omega, t02'⟩ y
        subst this
        exact ⟨by omega, t02'⟩
    generalize tbF M0 pn 140 (m 18 4) = f0 at hf0 hk
    have hK := fwT_K (R := m 23) tw.2.2.2.2.2.1
    have way : ∀ a b, a < 10 → b < 10 → 0 ≤ m 24 (10 * a + b) ∧ (m 24 (10 * a + b) < 1000000 → m 24 (10 * a + b) ≤ 990) := fun a b ha hb => by
      have e : m 24 (10 * a + b) = fwT (m 23) (10 * a + b) := (hw.1.2.2 _ (by omega)).1
      rw [e]
      exact ⟨(hK.1 a b ha hb).1, fun y => fwK_bd (Nat.le_refl _) hK ha hb y⟩
    have pp10 : ∀ t, t < pn → (M0 143 t).toNat < 10 := fun t ht => by
      obtain ⟨p, a1, a2, a3, a4⟩ := ppv t ht
      rw [a3]; omega
    have cp10 : ∀ i, i < cn → (M0 142 i).toNat < 10 := fun i hi => by
      obtain ⟨c, a1, a2, a3, a4, a5⟩ := cdv i hi
      rw [a4]
      have := hpl c a1
      omega
    have hx : tX (M0 144) (M0 145) (M0 146) pn cn f0 := by
      refine ⟨hcn, hpn, hf0.1, fun f i t hf hi ht => ?_, fun a b f ha hb hf => ?_, fun t ht => ?_⟩
      · rw [mtw f i t hf hi ht]
        have w1 := way _ _ (pp10 f hf) (cp10 i hi)
        have w2 := way _ _ (cp10 i hi) (pp10 t ht)
        omega
      · have h64 := pw5 cn (by omega)
        have hp6 := pw2 a (by omega)
        have hp0 : a = 0 → b = 0 := fun z => by
          subst z
          have : pop 0 16 = 0 := by decide +kernel
          omega
        have e := hT'.2 a b f ha hb hf (by omega)
        unfold weQ at e
        rw [m0t _ (by omega), e]
        refine bwO_congr cn fun i hi t ht => ?_
        rw [show M0 144 = C (140 + 4) from m0o 144 (by omega), show M0 145 = C (140 + 5) from m0o 145 (by omega)]
        exact (woF_congr (by omega) hb (by omega) (by omega) fun k hk' _ => m0t k hk').symm
      · obtain ⟨p, a1, a2, a3, a4⟩ := ppv t ht
        rw [a4]
        have := hpd p (by omega)
        have s0 : 0 ≤ sm (pnd m 18 p) 16 := sm_0 fun c hc => by unfold pnd; split <;> omega
        omega
    have tb := tb_gx (q := 140) (cd := fun i => (M0 141 i).toNat) (pp := fun t => (M0 143 t).toNat) hx cn [] (mz_up M0 140 11 0) trivial ⟨U 144 (by omega), U 145 (by omega), U 146 (by omega)⟩ (fun i hi => by
      rw [up_o (by omega)]
      obtain ⟨c, a1, a2, a3, a4, a5⟩ := cdv i hi
      show M0 141 i = ((M0 141 i).toNat : Int)
      rw [a3]; omega) (fun t ht => by
      rw [up_o (by omega)]
      obtain ⟨p, a1, a2, a3, a4⟩ := ppv t ht
      show M0 143 t = ((M0 143 t).toNat : Int)
      rw [a3]; omega) up_s trivial trivial
    rw [show ndA [] = 0 from rfl, show ndB [] = 0 from rfl, show ndF f0 [] = f0 from rfl] at tb
    have rm := gx_room hx cn [] trivial (Or.inl rfl)
    have nx := nx_gx (Rm := M0 144) (Ln := M0 145) (Tb := M0 146) (pn := pn) (cn := cn) (f0 := f0)
    generalize gx (M0 144) (M0 145) (M0 146) pn cn f0 cn [] = Q at tb rm nx
    refine ⟨_, Q, fun i => (M0 141 i).toNat, fun t => (M0 143 t).toNat, M0 145, f0, hk, fr _, rows _, ⟨tb.1, ?_, tb.2.1, tb.2.2.2⟩, fun hQ => ?_, fun m2 e154 e159 => ?_⟩
    · have := ndV_len hcn tb.2.2.1; omega
    · have v := ls0_v hQ tb.2.2.1
      obtain ⟨c, a1, a2, a3, a4, a5⟩ := cdv _ v.1
      obtain ⟨p, b1, b2, b3, b4⟩ := ppv _ v.2
      obtain ⟨y, hy⟩ := nat_i (hpl c a1).1
      have rm := rm.resolve_left hQ
      have l := mtw f0 _ _ hf0.1 v.1 v.2
      have := (hpl c a1).2
      refine ⟨c, y, p, tr, by show c = (M0 141 (ls0 Q).1).toNat; rw [a3]; rfl, by show p = (M0 143 (ls0 Q).2).toNat; rw [b3]; rfl, a1, by omega, by omega, by omega, hy, htr, a5, ?_, by omega, by omega⟩
      rw [l, hf0.2, a4, hy, b3]
      rfl
    · have b154 : toB m2 154 = m 154 := by rw [← e154]; funext j; unfold toB; rw [if_neg (by omega), if_neg (by omega)]
      have hy : tY (toB m2) (fun i => (M0 141 i).toNat) (fun i => (M0 142 i).toNat) (fun t => (M0 143 t).toNat) (M0 145) pn cn n := by
        refine ⟨?_, ⟨?_, by omega⟩, fun i hi => ?_, ⟨fun t ht => ?_, fun y2 => ?_⟩, ?_, fun f i t hf hi ht => ?_⟩
        · unfold toB
          rw [if_neg (by omega), if_pos ⟨rfl, rfl⟩, e154, chm.1]
        · rw [b154, hs.1, hn]
        · obtain ⟨c, a1, a2, a3, a4, a5⟩ := cdv i hi
          have g := hpl c a1
          have ac := (hw.2.2.2.1 c a1).1
          simp only [a3, a4, Int.toNat_natCast]
          refine ⟨?_, a1, ?_, by omega⟩
          · unfold toB
            rw [if_pos rfl, e154, e159]
            exact a2
          · rw [b154, ac.2.2.1]; omega
        · obtain ⟨p, a1, a2, a3, a4⟩ := ppv t ht
          simp only [a3, Int.toNat_natCast]; exact a1
        · have := p4 0 1 (by omega) (by omega)
          rw [← r143, ← m0o 143 (by omega)] at this
          obtain ⟨p, a1, a2, a3, a4⟩ := ppv 0 (by omega)
          simp only
          omega
        · rw [b154]; exact RW_mW hw
        · simp only
          have := pp10 f hf
          have := pp10 t ht
          have := cp10 i hi
          rw [mtw f i t hf hi ht, b154, vW _ (by omega), vW _ (by omega)]
      have hr : rmO (M0 144) pn (fun t => (M0 143 t).toNat) [] (rmK (m2 154) (m2 164) 10) := by
        have ek : ∀ i, i < 10 → rmK (m2 154) (m2 164) 10 i = mRoom (m 154) i := fun i hi => by unfold rmK; rw [if_pos hi, e154]
        refine ⟨fun t ht => ?_, fun p hp hno => ?_⟩
        · obtain ⟨p, a1, a2, a3, a4⟩ := ppv t ht
          have e0 : ctO [] t = 0 := by unfold ctO; split <;> rfl
          simp only [a3, Int.toNat_natCast]
          rw [e0, a4, ek p (by omega)]
          unfold mRoom
          have vp := v22 p (by omega)
          have le := hw.2.2.1 p (by omega)
          have es : sm (mPn (m 154) p) 16 = sm (pnd m 18 p) 16 := sm_congr fun c hc => q_pn hw p hc
          rw [if_pos (by omega), vp, es]
          omega
        · rw [ek p hp]
          unfold mRoom
          rw [v22 p hp]
          by_cases y : 0 < m (18 + 4) p
          · have pn' : p < n := by have := (tw.2.2.2.1 p hp).2 y; omega
            obtain ⟨t, c1, c2⟩ := p3 p pn' y
            exact absurd (by simp only; rw [m0o 143 (by omega), r143, c2]; rfl) (hno t c1)
          · rw [if_neg y]
      obtain ⟨T2, g1, g2⟩ := sp_toursY m2 (by rw [e154]; exact hS) (by rw [e154]; exact hN16) (by rw [e154]; exact hPV) hx hy hr (by
        rw [e154, tm.2.1, if_neg (by omega), htr]
        show (tr : Int) = ((M0 143 f0).toNat : Int)
        rw [hf0.2]; rfl)
      rw [nx] at g2
      refine ⟨tMT (toB m2) T2, g1, by rw [← g2.2.2.1.1]; exact tM_g19 .., by rw [← g2.2.2.1.2]; exact tM_g20 .., ?_, ?_, fun a h1 h2 => ?_, fun j h1 h2 h3 => ?_⟩
      · rw [show tMT (toB m2) T2 162 = T2.2.2.1 by funext j; unfold tMT tM; rw [if_neg (by omega), if_neg (by omega), if_pos rfl]]
        exact g2.2.1.1
      · rw [show tMT (toB m2) T2 163 = T2.2.2.2.1 by funext j; unfold tMT tM; rw [if_neg (by omega), if_neg (by omega), if_neg (by omega), if_pos rfl]]
        exact g2.2.1.2
      · funext j; unfold tMT tM toB; rw [if_neg (by omega), if_neg (by omega), if_neg (by omega), if_neg (by omega), if_neg (by omega), if_neg (by omega), if_neg (by omega), if_neg (by omega), if_neg (by omega)]
      · unfold tMT tM toB; rw [if_neg (by omega), if_neg (by omega), if_neg (by omega), if_neg (by omega), if_neg (by omega), if_neg (by omega), if_neg (by omega), if_neg (by omega), if_neg (by omega)]
