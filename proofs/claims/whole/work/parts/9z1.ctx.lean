/-! What the Statement gives of the law's start. -/
def lw_pl (y : Nat) (w : Cond) : Bool := decide ((mz_ck (y / 1000))[y % 1000]? = some w)
theorem lw_pl_ok {y : Nat} {w : Cond} (h : lw_pl y w = true) : w ∈ lw_tbl := mz_ck_in (List.mem_of_getElem? (of_decide_eq_true h))
def lw_pls : List Cond → List Nat → Bool
  | [], _ => true
  | w :: L, y :: ys => lw_pl y w && lw_pls L ys
  | _ :: _, [] => false
theorem lw_pls_ok : ∀ {L : List Cond} {ys : List Nat}, lw_pls L ys = true → ∀ w ∈ L, w ∈ lw_tbl := by
  intro L
  induction L with
  | nil => intro ys _ w hw; cases hw
  | cons x L ih =>
    intro ys h w hw
    cases ys with
    | nil => simp [lw_pls] at h
    | cons y ys =>
      simp only [lw_pls, Bool.and_eq_true] at h
      rcases List.mem_cons.mp hw with rfl | hw
      · exact lw_pl_ok h.1
      · exact ih h.2 w hw
def lw_fl : List Cond := flatC (Jvm.Cond.and given_1 narrow_1)
def lw_sp : List Nat := [89, 99, 108, 118, 129, 141, 156, 171, 205, 240, 279, 314, 335, 355, 376, 398, 421, 447]
def lw_st (i : Nat) : Term := .string (mz_so.getD i ("", 0, "")).1 (mz_so.getD i ("", 0, "")).2.1
def lw_sB (i : Nat) : Bool :=
  decide (lw_fl[lw_sp.getD i 0]? = some (.exactly (lw_st i) "java/lang/String")) && decide (lw_fl[lw_sp.getD i 0 + 1]? = some (.eq (.field (lw_st i) "java/lang/String" "coder" "B") (.int 0))) && decide (lw_fl[lw_sp.getD i 0 + 2]? = some (.arrayOf (.field (lw_st i) "java/lang/String" "value" "[B") .byte)) &&
  decide (lw_fl[lw_sp.getD i 0 + 3]? = some (.eq (.length (.field (lw_st i) "java/lang/String" "value" "[B")) (.int (Int32.ofNat ((mz_tx.map List.length).getD i 0))))) &&
  (List.range ((mz_tx.map List.length).getD i 0)).all (fun j => decide (lw_fl[lw_sp.getD i 0 + 4 + j]? = some (.eq (.elem (.field (lw_st i) "java/lang/String" "value" "[B") (.int (Int32.ofNat j))) (.int (((mz_tx.map (fun l => l.map Int32.ofInt)).getD i []).getD j 0)))))
theorem lw_sBok : (List.range 18).all lw_sB = true := by decide +kernel
theorem lw_slen : (List.range 18).all (fun i => decide ((mz_tx.map List.length).getD i 0 < 2 ^ 31)) = true := by decide +kernel
theorem lw_str {args : Array Value} {s : State} {A : Nat → Prop} (hs : ∀ w ∈ lw_fl, w.before args s = true) (hA : ∀ a : Nat, a < s.heap.size → ¬ A a) : ∃ sK sV : Nat → Nat, mz_vo sK sV A s s.heap ∧ ∀ i : Nat, i < 18 → (lw_st i).eval args s none [] s = some (.ref (sK i)) := by
  have h0 : ∀ i : Nat, ∃ q : Nat × Nat, i < 18 → (lw_st i).eval args s none [] s = some (.ref q.1) ∧ va_O "java/lang/String" q.1 A s s.heap ∧ va_OF "java/lang/String" "coder" "B" (.int 0) q.1 A s s.heap ∧ va_OF "java/lang/String" "value" "[B" (.ref q.2) q.1 A s s.heap ∧ va_T .byte q.2 ((mz_tx.map List.length).getD i 0) (fun j => .int (((mz_tx.map (fun l => l.map Int32.ofInt)).getD i []).getD j 0)) A s s.heap := by
    intro i
    by_cases hi : i < 18
    · have hB := List.all_eq_true.mp lw_sBok i (List.mem_range.mpr hi)
      have hl := of_decide_eq_true (List.all_eq_true.mp lw_slen i (List.mem_range.mpr hi))
      simp only [lw_sB, Bool.and_eq_true, decide_eq_true_eq, List.all_eq_true] at hB
      obtain ⟨⟨⟨⟨b1, b2⟩, b3⟩, b4⟩, b5⟩ := hB
      obtain ⟨a, c, cA, kA, q1, q2, q3, q4, q5, q6, -⟩ := Cond.exactly_spec (args := args) (first := s) (o := none) (s := s) (idx := []) (t := lw_st i) (cls := "java/lang/String") (hs _ (List.mem_of_getElem? b1))
      obtain ⟨t, ht, hT⟩ := va_Tof (f := fun j => .int (((mz_tx.map (fun l => l.map Int32.ofInt)).getD i []).getD j 0)) (A := A) hl (hs _ (List.mem_of_getElem? b3)) (va_eqt (hs _ (List.mem_of_getElem? b4))) (fun j hj => va_eqt (hs _ (List.mem_of_getElem? (b5 j (List.mem_range.mpr hj))))) hA
      exact ⟨(a, t), fun _ => ⟨q1, ⟨cA, q3, q5, by rw [q6]; exact q2, hA a (Array.getElem?_eq_some_iff.mp q3).1⟩, vk_OFof q1 (va_eqt (hs _ (List.mem_of_getElem? b2))) hA, vk_OFof q1 ht hA, hT⟩⟩
    · exact ⟨(0, 0), fun h => absurd h hi⟩
  obtain ⟨ad, had⟩ := Classical.axiomOfChoice h0
  exact ⟨fun i => (ad i).1, fun i => (ad i).2, fun i hi => (had i hi).2, fun i hi => (had i hi).1⟩
theorem lw_srB : (List.range 18).all (fun i => lw_pl (([2201, 2202, 2203, 2204, 2205, 2206, 2207, 5206, 6018, 6053, 6092, 6223, 7006, 7015, 7020, 7025, 7026, 7027] : List Nat).getD i 0) (.stringRef (mz_so.getD i ("", 0, "")).1 (mz_so.getD i ("", 0, "")).2.1 (mz_so.getD i ("", 0, "")).2.2)) = true := by decide +kernel
theorem lw_nwB : lw_pls mz_nw [1035, 1048, 1081, 1090, 1097, 1180, 2063, 2111, 2171, 2197, 2222, 3071, 3106, 3132, 3167, 3192, 4024, 4059, 4066, 4080, 4143, 5055, 5135, 5141, 5147] = true := by decide +kernel
theorem lw_xnB : lw_pls xw_nw [5167, 6011, 6046, 5169, 5171, 5173] = true := by decide +kernel
theorem lw_nwT : mz_nw.all (fun w => w.onTables) = true := by decide +kernel
theorem lw_arr {ty : FieldType} {args : Array Value} {s : State} (h : (Cond.arrayClass ty).before args s = true) (hne : ∀ C, ty ≠ .object C) : ∃ cA : ClassId, ArrOfT s cA ty ∧ va_RA s cA ty := by
  obtain ⟨cA, kA, comp, h1, h2, h3⟩ := Cond.arrayClass_spec (args := args) (first := s) (o := none) (s := s) (idx := []) h
  refine ⟨cA, fun n z => ⟨fun k h => (by cases h), kA, h2, comp, h3⟩, ?_⟩
  cases ty <;> first | exact h1 | exact absurd rfl (hne _)
theorem lw_arO {C : String} {args : Array Value} {s : State} (h : (Cond.arrayOver (.object C)).before args s = true) : ∃ cA : ClassId, ArrOfT s cA (.object C) ∧ va_RA s cA (.object C) := by
  obtain ⟨comp, cA, kA, h1, -, h2, h3, h4⟩ := Cond.arrayOver_spec (args := args) (first := s) (o := none) (s := s) (idx := []) h
  exact ⟨cA, fun n z => ⟨fun k h => (by cases h), kA, h2, comp, h3⟩, kA, comp, h2, h3, h1, h4⟩
theorem lw_gw {args : Array Value} {s : State} (hts : ∀ w ∈ lw_tbl, w.before args s = true) : ∀ w ∈ mz_gw, w.before args s = true := fun w hw => hts w (List.mem_filter.mp hw).1
theorem lw_ctx {args : Array Value} {s : State} (hts : ∀ w ∈ lw_tbl, w.before args s = true) (hgv : (Jvm.Cond.and given_1 narrow_1).before args s = true) : ∃ (D : va_G) (cy : Nat → ClassId) (sK sV : Nat → Nat) (vF : Value), mz_Cx D cy sK sV vF (fun q : Nat => s.heap.size ≤ q) s ∧ xw_T (fun q : Nat => s.heap.size ≤ q) s := by
  have hs : ∀ w ∈ lw_fl, w.before args s = true := flat_of_before _ hgv
  have hA : ∀ a : Nat, a < s.heap.size → ¬ (fun q : Nat => s.heap.size ≤ q) a := fun a h => Nat.not_le.mpr h
  obtain ⟨sK, sV, hv, hev⟩ := lw_str (A := fun q : Nat => s.heap.size ≤ q) hs hA
  -- classes
  have h0 : ∀ c : Nat, ∃ q : ClassId × (Nat → Nat), c < 10 → u_Kn s (mz_cn c) (mz_T c) (mz_nf c) q.1 q.2 := by
    intro c
    by_cases hc : c < 10
    · obtain ⟨cC, iS, h⟩ := u_known (n := mz_nf c) (lw_gw hts) (mz_hin hc) (lw_gw hts _ (mz_ins hc).1)
      exact ⟨(cC, iS), fun _ => h⟩
    · exact ⟨(0, fun _ => 0), fun h => absurd h hc⟩
  obtain ⟨dd, hdd⟩ := Classical.axiomOfChoice h0
  obtain ⟨c0, k0⟩ := lw_arr (ty := .int) (hts _ (lw_pl_ok (y := 1063) (by decide +kernel))) (fun C h => by cases h)
  obtain ⟨c1, k1⟩ := lw_arr (ty := .boolean) (hts _ (lw_pl_ok (y := 2108) (by decide +kernel))) (fun C h => by cases h)
  obtain ⟨c2, k2⟩ := lw_arr (ty := .byte) (hts _ (lw_pl_ok (y := 3111) (by decide +kernel))) (fun C h => by cases h)
  have z3 : (Cond.arrayOver (.object RX7)).before args s = true := hts _ (lw_pl_ok (y := 1046) (by decide +kernel))
  have z4 : (Cond.arrayOver (.object RX0)).before args s = true := hts _ (lw_pl_ok (y := 1177) (by decide +kernel))
  have z5 : (Cond.arrayOver (.object RX6)).before args s = true := hts _ (lw_pl_ok (y := 2060) (by decide +kernel))
  obtain ⟨c3, k3⟩ := lw_arO z3
  obtain ⟨c4, k4⟩ := lw_arO z4
  obtain ⟨c5, k5⟩ := lw_arO z5
  have hZs := va_Zof (A := fun q : Nat => s.heap.size ≤ q) (hts (.laysStatic "java/lang/String" "COMPACT_STRINGS" "Z") (lw_pl_ok (y := 2221) (by decide +kernel))) (hts (.initialized "java/lang/String") (lw_pl_ok (y := 1014) (by decide +kernel))) (va_eqt (z := 1) (hs _ (List.mem_of_getElem? (i := 4) (by decide +kernel)))) hA
  obtain ⟨vF, ef, rf9⟩ := Cond.isRef_spec (args := args) (first := s) (o := none) (s := s) (idx := []) (hs (.isRef (.static "jdk/internal/util/Preconditions" "SIOOBE_FORMATTER" "Ljava/util/function/BiFunction;")) (List.mem_of_getElem? (i := 5) (by decide +kernel)))
  have hZf := va_Zof (A := fun q : Nat => s.heap.size ≤ q) (hts (.laysStatic "jdk/internal/util/Preconditions" "SIOOBE_FORMATTER" "Ljava/util/function/BiFunction;") (lw_pl_ok (y := 2238) (by decide +kernel))) (hts (.initialized "jdk/internal/util/Preconditions") (lw_pl_ok (y := 1016) (by decide +kernel))) ef hA
  refine ⟨(fun c => (dd c).1, fun c => (dd c).2), fun k => if k = 0 then c0 else if k = 1 then c1 else if k = 2 then c2 else if k = 3 then c3 else if k = 4 then c4 else c5, sK, sV, vF, ⟨⟨fun c q hq => ?_, fun k q hq => ?_⟩, fun w hw => ?_, fun a q hq => ?_, hv, hZs, hZf, ?_, fun q hq => hq, va_AO.of z3, va_AO.of z4, va_AO.of z5⟩, fun w hw => ?_, ?_, ?_⟩
  · have hc : c < 10 := by
      have := (List.getElem?_eq_some_iff.mp hq).1
      exact this
    rw [mz_cl_at c hc] at hq
    cases hq
    exact hdd c hc
  · have hk : k < 6 := by
      have := (List.getElem?_eq_some_iff.mp hq).1
      exact this
    rcases (show k = 0 ∨ k = 1 ∨ k = 2 ∨ k = 3 ∨ k = 4 ∨ k = 5 by omega) with rfl | rfl | rfl | rfl | rfl | rfl <;> cases hq
    · exact k0
    · exact k1
    · exact k2
    · exact k3
    · exact k4
    · exact k5
  · exact va_tabs (List.all_eq_true.mp lw_nwT w hw) rfl (hts w (lw_pls_ok lw_nwB w hw))
  · have ha : a < 18 := by
      have := (List.getElem?_eq_some_iff.mp hq).1
      exact this
    have hw := lw_pl_ok (List.all_eq_true.mp lw_srB a (List.mem_range.mpr ha))
    have he := hev a ha
    unfold lw_st at he
    rw [List.getD_eq_getElem?_getD, hq] at he hw
    exact vk_R.of (hts _ hw) he
  · cases vF <;> first | exact Or.inl rfl | exact Or.inr ⟨_, rfl⟩ | cases rf9
  · exact va_tabs (xw_nw_on w hw) rfl (hts w (lw_pls_ok lw_xnB w hw))
  · exact vx_Zqof (hts _ (lw_pl_ok (y := 5192) (by decide +kernel))) (hts _ (lw_pl_ok (y := 1018) (by decide +kernel))) (hs _ (List.mem_of_getElem? (i := 9) (by decide +kernel))) hA
  · exact vx_Zqof (hts _ (lw_pl_ok (y := 5194) (by decide +kernel))) (hts _ (lw_pl_ok (y := 1018) (by decide +kernel))) (hs _ (List.mem_of_getElem? (i := 10) (by decide +kernel))) hA
