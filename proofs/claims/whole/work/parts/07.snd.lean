/-! The small machine's runs are the JVM's. -/
theorem mz_t {n : Int} (h : mz_w n) : (Int32.ofInt n).toInt = n := Int32.toInt_ofInt_of_le (by unfold mz_w at h; omega) (by unfold mz_w at h; omega)
theorem mz_eqI {u v : Int} (hu : mz_w u) (hv : mz_w v) : Int32.ofInt u = Int32.ofInt v ↔ u = v := by
  constructor
  · intro h
    have := congrArg Int32.toInt h
    rwa [mz_t hu, mz_t hv] at this
  · intro h; rw [h]
theorem mz_ltI {u v : Int} (hu : mz_w u) (hv : mz_w v) : Int32.ofInt u < Int32.ofInt v ↔ u < v := by
  rw [Int32.lt_iff_toInt_lt, mz_t hu, mz_t hv]
theorem mz_leI {u v : Int} (hu : mz_w u) (hv : mz_w v) : Int32.ofInt u ≤ Int32.ofInt v ↔ u ≤ v := by
  rw [Int32.le_iff_toInt_le, mz_t hu, mz_t hv]
theorem mz_w0 : mz_w 0 := by unfold mz_w; omega
theorem mz_wt (x : Int32) : mz_w x.toInt := by
  have h1 := x.le_toInt
  have h2 := x.toInt_lt
  unfold mz_w
  omega
theorem mz_inI {j : Int} {n : Nat} (hj : mz_w j) (h : 0 ≤ j ∧ j < n) : vp_in (Int32.ofInt j) n ∧ (Int32.ofInt j).toNatClampNeg = j.toNat := by
  have e : (Int32.ofInt j).toNatClampNeg = j.toNat := by
    show (Int32.ofInt j).toInt.toNat = _
    rw [mz_t hj]
  refine ⟨vp_in_iff.mpr ?_, e⟩
  rw [mz_t hj]
  omega
def mz_v (ad sK sV : Nat → Nat) (vF : Value) : mz_V → Value
  | .inl n => .int (Int32.ofInt n)
  | .inr none => .null
  | .inr (some (t, _, o)) => if t = 90 then .ref (sK o) else if t = 91 then .ref (sV o) else if t = 92 then vF else .ref (ad o)
def mz_fv (ad : Nat → Nat) (σ : mz_S) (t o k : Nat) : Value := match mz_fr t k with
  | some (_, _, f) => if σ.2.2.1 o k then .ref (ad (o + f)) else .null
  | none => .int (Int32.ofInt (σ.2.2.2 o k))
def mz_rw (ad : Nat → Nat) (σ : mz_S) (o k : Nat) : Option Nat := if k < (mz_kd o).2 ∧ σ.2.2.1 o k = true then some (ad (o + ((mz_ar (mz_kd o).1).2.1 + (mz_ar (mz_kd o).1).2.2 * k))) else none
def mz_en (ad : Nat → Nat) (cy : Nat → ClassId) (σ : mz_S) (o : Nat) : va_E :=
  if (mz_kd o).1 < 10 then .inr ((mz_kd o).1, (List.range (mz_nf (mz_kd o).1)).map (mz_fv ad σ (mz_kd o).1 o))
  else if (mz_kd o).1 < 103 then .inl (cy ((mz_kd o).1 - 100), (mz_kd o).2, .inl (fun k => Int32.ofInt (σ.2.2.2 o k)))
  else .inl (cy ((mz_kd o).1 - 100), (mz_kd o).2, .inr (.inr (.inr (.inr (mz_rw ad σ o)))))
def mz_ws (ad : Nat → Nat) (cy : Nat → ClassId) (σ : mz_S) : va_W := (List.range σ.1).map (fun o => (ad o, mz_en ad cy σ o))
def mz_tys (cy : Nat → ClassId) : List (ClassId × FieldType) := [(cy 0, .int), (cy 1, .boolean), (cy 2, .byte), (cy 3, .object RX7), (cy 4, .object RX0), (cy 5, .object RX6)]
def mz_wf (σ : mz_S) (v : mz_V) : Prop := match v with
  | .inl n => mz_w n
  | .inr none => True
  | .inr (some (t, n, o)) => if t = 90 then o < 18 else if t = 91 then o < 18 ∧ n = mz_tl o else if t = 92 then True else o < σ.1 ∧ mz_kd o = (t, n)
def mz_wS (σ : mz_S) : Prop := σ.1 ≤ 167 ∧ (∀ o k, mz_w (σ.2.2.2 o k)) ∧ (∀ o k, (mz_kd o).1 = 101 → σ.2.2.2 o k = 0 ∨ σ.2.2.2 o k = 1) ∧ (∀ o k, (mz_kd o).1 = 102 → -128 ≤ σ.2.2.2 o k ∧ σ.2.2.2 o k ≤ 127) ∧
  (∀ o, o < σ.1 → ∀ k t n f, k < mz_nf (mz_kd o).1 → mz_fr (mz_kd o).1 k = some (t, n, f) → σ.2.2.1 o k = true → o + f < σ.1 ∧ mz_kd (o + f) = (t, n)) ∧
  (∀ o, o < σ.1 → 103 ≤ (mz_kd o).1 → (mz_kd o).1 ≤ 105 → ∀ k, k < (mz_kd o).2 → σ.2.2.1 o k = true → o + ((mz_ar (mz_kd o).1).2.1 + (mz_ar (mz_kd o).1).2.2 * k) < σ.1 ∧ mz_kd (o + ((mz_ar (mz_kd o).1).2.1 + (mz_ar (mz_kd o).1).2.2 * k)) = ((mz_ar (mz_kd o).1).1, 0))
theorem mz_ws_len (ad : Nat → Nat) (cy : Nat → ClassId) (σ : mz_S) : (mz_ws ad cy σ).length = σ.1 := by simp [mz_ws]
theorem mz_ws_at (ad : Nat → Nat) (cy : Nat → ClassId) (σ : mz_S) {o : Nat} (h : o < σ.1) : (mz_ws ad cy σ)[o]? = some (ad o, mz_en ad cy σ o) := by
  simp [mz_ws, h]
theorem mz_ws_ext {ad ad' : Nat → Nat} {cy : Nat → ClassId} {σ σ' : mz_S} (hn : σ'.1 = σ.1) (ha : ∀ o, o < σ.1 → ad o = ad' o) (h : ∀ o, o < σ.1 → mz_en ad cy σ o = mz_en ad' cy σ' o) : mz_ws ad cy σ = mz_ws ad' cy σ' := by
  unfold mz_ws
  rw [hn]
  apply List.map_congr_left
  intro o ho
  have ho := List.mem_range.mp ho
  rw [ha o ho, h o ho]
theorem mz_ws_set {ad : Nat → Nat} {cy : Nat → ClassId} {σ σ' : mz_S} {o : Nat} {e : va_E} (hn : σ'.1 = σ.1) (ho : o < σ.1) (he : mz_en ad cy σ' o = e) (h : ∀ q, q < σ.1 → q ≠ o → mz_en ad cy σ' q = mz_en ad cy σ q) : (mz_ws ad cy σ).set o (ad o, e) = mz_ws ad cy σ' := by
  apply List.ext_getElem?
  intro j
  rw [List.getElem?_set]
  by_cases hj : j < σ.1
  · rw [mz_ws_at _ _ _ hj, mz_ws_at _ _ _ (by rw [hn]; exact hj)]
    by_cases hoj : o = j
    · subst hoj
      simp [mz_ws_len, ho, he]
    · rw [if_neg hoj, h j hj (Ne.symm hoj)]
  · have e1 : (mz_ws ad cy σ)[j]? = none := List.getElem?_eq_none (by rw [mz_ws_len]; omega)
    have e2 : (mz_ws ad cy σ')[j]? = none := List.getElem?_eq_none (by rw [mz_ws_len, hn]; omega)
    rw [e1, e2, if_neg (by omega)]
/-- the texts: objects of their own class, latin, with their bytes -/
def mz_vo (sK sV : Nat → Nat) (A : Nat → Prop) (U : State) (H : Heap) : Prop := ∀ i : Nat, i < 18 → va_O "java/lang/String" (sK i) A U H ∧ va_OF "java/lang/String" "coder" "B" (.int 0) (sK i) A U H ∧ va_OF "java/lang/String" "value" "[B" (.ref (sV i)) (sK i) A U H ∧ va_T .byte (sV i) ((mz_tx.map List.length).getD i 0) (fun j => .int (((mz_tx.map (fun l => l.map Int32.ofInt)).getD i []).getD j 0)) A U H
theorem mz_vo.moved {sK sV : Nat → Nat} {A : Nat → Prop} {u U : State} {H : Heap} (hvm : u.vm.Alike U.vm) (h : mz_vo sK sV A u H) : mz_vo sK sV A U H :=
  fun i hi => ⟨va_O.moved hvm (h i hi).1, va_OF.moved hvm (h i hi).2.1, va_OF.moved hvm (h i hi).2.2.1, va_T.moved hvm (h i hi).2.2.2⟩
theorem mz_vo.kept {sK sV : Nat → Nat} {A : Nat → Prop} {U : State} {H H1 : Heap} (h : mz_vo sK sV A U H) (hq : ∀ a : Nat, a < H.size → ¬ A a → H1[a]? = H[a]?) : mz_vo sK sV A U H1 :=
  fun i hi => ⟨(h i hi).1.kept hq, (h i hi).2.1.kept hq, (h i hi).2.2.1.kept hq, (h i hi).2.2.2.kept hq⟩
theorem mz_vo.narrow {sK sV : Nat → Nat} {A B : Nat → Prop} {U : State} {H : Heap} (h : mz_vo sK sV A U H) (hAB : ∀ q, B q → A q) : mz_vo sK sV B U H :=
  fun i hi => ⟨(h i hi).1.narrow hAB, (h i hi).2.1.narrow hAB, (h i hi).2.2.1.narrow hAB, (h i hi).2.2.2.narrow hAB⟩
theorem mz_vo.recv {sK sV : Nat → Nat} {A : Nat → Prop} {s : State} {H : Heap} {locs : List Loc} {i : Nat} (hE : mz_vo sK sV A s s.heap) (hi : i < 18) (hS : va_S A s.heap H locs) : ∃ cell : Cell, H[sK i]? = some cell ∧ cell.vm.isStatics = false ∧ s.vm.findClass "java/lang/String" = some cell.cls := by
  obtain ⟨cell, h1, h2, h3, -⟩ := (hE i hi).1.kept hS.2.1
  exact ⟨cell, h1, h2, h3⟩
/-- what is held of a state apart from its cells -/
def mz_Cx (D : va_G) (cy : Nat → ClassId) (sK sV : Nat → Nat) (vF : Value) (β : Nat → Prop) (U : State) : Prop :=
  va_K D vwCl (mz_tys cy) U ∧ (∀ w ∈ mz_nw, va_Nw w U) ∧ (∀ (a : Nat) (q : String × Nat × String), mz_so[a]? = some q → vk_R q.1 q.2.1 q.2.2 (sK a) U) ∧
  mz_vo sK sV β U U.heap ∧
  va_Z "java/lang/String" "COMPACT_STRINGS" "Z" (.int 1) β U U.heap ∧ va_Z "jdk/internal/util/Preconditions" "SIOOBE_FORMATTER" "Ljava/util/function/BiFunction;" vF β U U.heap ∧
  (vF = .null ∨ ∃ a, vF = .ref a) ∧ (∀ q : Nat, U.heap.size ≤ q → β q) ∧ va_AO RX7 U ∧ va_AO RX0 U ∧ va_AO RX6 U
theorem mz_Cx_go {D : va_G} {cy : Nat → ClassId} {sK sV : Nat → Nat} {vF : Value} {β : Nat → Prop} {s U : State} (h : mz_Cx D cy sK sV vF β s) (hW : s.WarmedH U.vm) (hz : s.heap.size ≤ U.heap.size) (hq : ∀ a : Nat, a < s.heap.size → ¬ β a → U.heap[a]? = s.heap[a]?) : mz_Cx D cy sK sV vF β U := by
  obtain ⟨h1, h2, h3, h4, h5, h6, h7, h8, h10, h11, h12⟩ := h
  refine ⟨va_K.moved hW.alike h1, ?_, fun a q ha => vk_R.warm hW (h3 a q ha), (mz_vo.moved hW.alike h4).kept hq, (va_Z.moved hW.alike h5).kept hq, (va_Z.moved hW.alike h6).kept hq, h7, fun q hq => h8 q (Nat.le_trans hz hq), va_AO.moved hW.alike h10, va_AO.moved hW.alike h11, va_AO.moved hW.alike h12⟩
  intro w hw
  have h9 := h2 w hw
  simp only [mz_nw, List.mem_cons, List.not_mem_nil, or_false] at hw
  rcases hw with rfl | rfl | rfl | rfl | rfl | rfl | rfl | rfl | rfl | rfl | rfl | rfl | rfl | rfl | rfl | rfl | rfl | rfl | rfl | rfl | rfl | rfl | rfl | rfl | rfl <;> exact va_Nw.warmM hW h9
theorem mz_Cx_same {D : va_G} {cy : Nat → ClassId} {sK sV : Nat → Nat} {vF : Value} {β : Nat → Prop} {u U : State} (hv : u.vm = U.vm) (hh : U.heap = u.heap) (h : mz_Cx D cy sK sV vF β u) : mz_Cx D cy sK sV vF β U := by
  obtain ⟨h1, h2, h3, h4, h5, h6, h7, h8, h10, h11, h12⟩ := h
  have ha : u.vm.Alike U.vm := by rw [hv]; exact Vm.Alike.refl _
  refine ⟨va_K.moved ha h1, ?_, fun a q hq => vk_R.same hv.symm (h3 a q hq), by rw [hh]; exact mz_vo.moved ha h4, by rw [hh]; exact va_Z.moved ha h5, by rw [hh]; exact va_Z.moved ha h6, h7, by rw [hh]; exact h8, va_AO.moved ha h10, va_AO.moved ha h11, va_AO.moved ha h12⟩
  intro w hw
  have h9 := h2 w hw
  simp only [mz_nw, List.mem_cons, List.not_mem_nil, or_false] at hw
  rcases hw with rfl | rfl | rfl | rfl | rfl | rfl | rfl | rfl | rfl | rfl | rfl | rfl | rfl | rfl | rfl | rfl | rfl | rfl | rfl | rfl | rfl | rfl | rfl | rfl | rfl <;> exact va_Nw.same rfl hv h9
def mz_lv (ad sK sV : Nat → Nat) (vF : Value) (ls : mz_Ls) : List (Nat × Value) := (List.range ls.length).filterMap (fun i => (ls[i]?.join).map (fun v => (i, mz_v ad sK sV vF v)))
theorem mz_lv_mem {ad sK sV : Nat → Nat} {vF : Value} {ls : mz_Ls} {q : Nat × Value} : q ∈ mz_lv ad sK sV vF ls ↔ ∃ v, ls[q.1]? = some (some v) ∧ q.2 = mz_v ad sK sV vF v := by
  unfold mz_lv
  rw [List.mem_filterMap]
  constructor
  · rintro ⟨i, hi, h⟩
    cases hl : ls[i]? with
    | none => rw [hl] at h; simp at h
    | some w =>
      rw [hl] at h
      cases w with
      | none => simp at h
      | some v =>
        simp at h
        subst h
        exact ⟨v, hl, rfl⟩
  · rintro ⟨v, h1, h2⟩
    refine ⟨q.1, List.mem_range.mpr (List.getElem?_eq_some_iff.mp h1).1, ?_⟩
    rw [h1]
    simp [← h2]
theorem mz_cat {vF : Value} (hF : vF = .null ∨ ∃ a, vF = .ref a) (ad sK sV : Nat → Nat) (v : mz_V) : (mz_v ad sK sV vF v).category = 1 := by
  unfold mz_v
  split
  · rfl
  · rfl
  · split
    · rfl
    · split
      · rfl
      · split
        · rcases hF with h | ⟨a, h⟩ <;> rw [h] <;> rfl
        · rfl
theorem mz_isr {vF : Value} (hF : vF = .null ∨ ∃ a, vF = .ref a) (ad sK sV : Nat → Nat) (r : Option (Nat × Nat × Nat)) : mz_v ad sK sV vF (.inr r) = .null ∨ ∃ a, mz_v ad sK sV vF (.inr r) = .ref a := by
  unfold mz_v
  split
  · rename_i h; cases h
  · exact Or.inl rfl
  · split
    · exact Or.inr ⟨_, rfl⟩
    · split
      · exact Or.inr ⟨_, rfl⟩
      · split
        · exact hF
        · exact Or.inr ⟨_, rfl⟩
theorem mz_lr_set {ad sK sV : Nat → Nat} {vF : Value} (hF : vF = .null ∨ ∃ a, vF = .ref a) {lsA : Array Slot} {nL a : Nat} {ls : mz_Ls} {v : mz_V} (h : lv_has lsA nL ((a, mz_v ad sK sV vF v) :: (mz_lv ad sK sV vF ls).filter (fun q => !(q.1 == a) && !(q.1 + 1 == a && q.2.category == 2)))) : lv_has lsA nL (mz_lv ad sK sV vF (ls.set a (some v))) := by
  refine ⟨h.1, h.2.1, fun q hq => h.2.2 q ?_⟩
  obtain ⟨w, h1, h2⟩ := mz_lv_mem.mp hq
  rw [List.getElem?_set] at h1
  by_cases ha : a = q.1
  · rw [if_pos ha] at h1
    split at h1
    · simp at h1
      subst h1
      rw [show q = (a, mz_v ad sK sV vF v) by rw [ha, ← h2]]
      exact List.mem_cons_self
    · simp at h1
  · rw [if_neg ha] at h1
    refine List.mem_cons_of_mem _ (List.mem_filter.mpr ⟨mz_lv_mem.mpr ⟨w, h1, h2⟩, ?_⟩)
    rw [h2, mz_cat hF]
    simp
    omega
theorem mz_v_ext {ad ad' sK sV : Nat → Nat} {vF : Value} {σ : mz_S} (h : ∀ o, o < σ.1 → ad' o = ad o) {v : mz_V} (hv : mz_wf σ v) : mz_v ad' sK sV vF v = mz_v ad sK sV vF v := by
  unfold mz_v
  split
  · rfl
  · rfl
  · rename_i t n o
    split
    · rfl
    · split
      · rfl
      · split
        · rfl
        · have : o < σ.1 := by
            simp only [mz_wf] at hv
            rename_i h1 h2 h3
            rw [if_neg h1, if_neg h2, if_neg h3] at hv
            exact hv.1
          rw [h o this]
theorem mz_wf_mono {σ σ' : mz_S} (h : σ.1 ≤ σ'.1) {v : mz_V} (hv : mz_wf σ v) : mz_wf σ' v := by
  unfold mz_wf at hv ⊢
  split
  · exact hv
  · trivial
  · simp only at hv
    split
    · rename_i h1; rw [if_pos h1] at hv; exact hv
    · rename_i h1; rw [if_neg h1] at hv
      split
      · rename_i h2; rw [if_pos h2] at hv; exact hv
      · rename_i h2; rw [if_neg h2] at hv
        split
        · trivial
        · rename_i h3; rw [if_neg h3] at hv; exact ⟨Nat.lt_of_lt_of_le hv.1 h, hv.2⟩
