/-! One operation of the small machine, one of the JVM: the operations that touch no cell. -/
section Sn2
variable {p : Program} {l : Launch} {e : Env} {R : Room} {s : State} {m : MethodId} {args : Array Value} {below : List Frame} {meth : Method} {c : Code} {D : va_G} {cy : Nat → ClassId} {sK sV : Nat → Nat} {vF : Value} {β : Nat → Prop} {Q : State → Prop} {ade ad : Nat → Nat} {te se : Nat} {k : Nat} {σ : mz_S} {ls : mz_Ls} {st : List mz_V} {lsA : Array Slot} {H : Heap} {locs : List Loc}
def mz_F (p : Program) (R : Room) (s : State) (m : MethodId) (args : Array Value) (meth : Method) (c : Code) (D : va_G) (cy : Nat → ClassId) (sK sV : Nat → Nat) (vF : Value) (β : Nat → Prop) (k : Nat) : Prop :=
  p.tables.exec = Jvm.exec ∧ c.code = mz_b k ∧ meth.sig.returnType = mz_rt k ∧ c.maxLocals = mz_L k ∧ s.vm.findClass (mz_y k).cls = some m.cls ∧ meth.locks = false ∧ meth.name = (mz_y k).name ∧ (∀ w ∈ mz_gw, w.before args s = true) ∧ mz_Cx D cy sK sV vF β s ∧ mz_dep k ≤ R.frames ∧ 60 * mz_dep k ≤ R.locals
def mz_H (s : State) (D : va_G) (cy : Nat → ClassId) (sK sV : Nat → Nat) (vF : Value) (β : Nat → Prop) (k : Nat) (ad : Nat → Nat) (σ : mz_S) (ls : mz_Ls) (st : List mz_V) (lsA : Array Slot) (H : Heap) (locs : List Loc) : Prop :=
  va_P D vwCl (mz_ws ad cy σ) H ∧ va_D β (mz_ws ad cy σ) ∧ va_S β s.heap H locs ∧ mz_wS σ ∧ (∀ v ∈ st, mz_wf σ v) ∧ (∀ (a : Nat) (v : mz_V), ls[a]? = some (some v) → mz_wf σ v) ∧ lv_has lsA (mz_L k) (mz_lv ad sK sV vF ls) ∧ ls.length = mz_L k
def mz_K (p : Program) (l : Launch) (e : Env) (R : Room) (s : State) (m : MethodId) (args : Array Value) (below : List Frame) (meth : Method) (c : Code) (D : va_G) (cy : Nat → ClassId) (sK sV : Nat → Nat) (vF : Value) (β : Nat → Prop) (Q : State → Prop) (ade : Nat → Nat) (te se : Nat) (k i : Nat) (ls : mz_Ls) (st : List mz_V) (σ : mz_S) : Prop :=
  ∀ (ad : Nat → Nat) (lsA : Array Slot) (H : Heap) (locs : List Loc), (∀ o, o < te → ad o = ade o) → te ≤ σ.1 → se ≤ σ.2.1 → mz_H s D cy sK sV vF β k ad σ ls st lsA H locs →
    W p l e R s m args below meth c H locs (σ.1 - te) (σ.2.1 - se) Q (F0 m (mz_pc k i) lsA (st.map (mz_v ad sK sV vF)))
theorem mz_K_at {j : Nat} (hK : mz_K p l e R s m args below meth c D cy sK sV vF β Q ade te se k j ls st σ) {pc' : Nat} (hj : mz_pc k j = pc') (h1 : ∀ o, o < te → ad o = ade o) (h2 : te ≤ σ.1) (h3 : se ≤ σ.2.1) (hH : mz_H s D cy sK sV vF β k ad σ ls st lsA H locs) {stk : List Value} (hs : st.map (mz_v ad sK sV vF) = stk) :
    W p l e R s m args below meth c H locs (σ.1 - te) (σ.2.1 - se) Q (F0 m pc' lsA stk) := by
  subst hj; subst hs
  exact hK ad lsA H locs h1 h2 h3 hH
theorem mz_H_st {st' : List mz_V} (hH : mz_H s D cy sK sV vF β k ad σ ls st lsA H locs) (h : ∀ v ∈ st', mz_wf σ v) : mz_H s D cy sK sV vF β k ad σ ls st' lsA H locs :=
  ⟨hH.1, hH.2.1, hH.2.2.1, hH.2.2.2.1, h, hH.2.2.2.2.2⟩
theorem mz_H_wf (hH : mz_H s D cy sK sV vF β k ad σ ls st lsA H locs) {v : mz_V} (h : v ∈ st) : mz_wf σ v := hH.2.2.2.2.1 v h
theorem mz_H_tl {v : mz_V} (hH : mz_H s D cy sK sV vF β k ad σ ls (v :: st) lsA H locs) : mz_H s D cy sK sV vF β k ad σ ls st lsA H locs := mz_H_st hH fun w hw => mz_H_wf hH (List.mem_cons_of_mem _ hw)
theorem mz_H_cons {v : mz_V} (hH : mz_H s D cy sK sV vF β k ad σ ls st lsA H locs) (hv : mz_wf σ v) : mz_H s D cy sK sV vF β k ad σ ls (v :: st) lsA H locs := mz_H_st hH fun w hw => by
  rcases List.mem_cons.mp hw with rfl | hw
  · exact hv
  · exact mz_H_wf hH hw
theorem mz_H_hd {v : mz_V} (hH : mz_H s D cy sK sV vF β k ad σ ls (v :: st) lsA H locs) : mz_wf σ v := mz_H_wf hH List.mem_cons_self
theorem mz_H_ls {a : Nat} {v : mz_V} (hH : mz_H s D cy sK sV vF β k ad σ ls st lsA H locs) (h : ls[a]? = some (some v)) : mz_wf σ v := hH.2.2.2.2.2.1 a v h
theorem mz_H_at {a : Nat} {v : mz_V} (hH : mz_H s D cy sK sV vF β k ad σ ls st lsA H locs) (h : ls[a]? = some (some v)) : lsA[a]? = some (.val (mz_v ad sK sV vF v)) :=
  hH.2.2.2.2.2.2.1.2.2 (a, mz_v ad sK sV vF v) (mz_lv_mem.mpr ⟨v, h, rfl⟩)
theorem mz_H_set (hF : vF = .null ∨ ∃ a, vF = .ref a) {a : Nat} {v : mz_V} {lsB : Array Slot} (hH : mz_H s D cy sK sV vF β k ad σ ls st lsA H locs) (hv : mz_wf σ v)
    (h : lv_has lsB (mz_L k) ((a, mz_v ad sK sV vF v) :: (mz_lv ad sK sV vF ls).filter (fun q => !(q.1 == a) && !(q.1 + 1 == a && q.2.category == 2)))) : mz_H s D cy sK sV vF β k ad σ (ls.set a (some v)) st lsB H locs := by
  refine ⟨hH.1, hH.2.1, hH.2.2.1, hH.2.2.2.1, hH.2.2.2.2.1, ?_, mz_lr_set hF h, by rw [List.length_set]; exact hH.2.2.2.2.2.2.2⟩
  intro b w hw
  rw [List.getElem?_set] at hw
  split at hw
  · split at hw
    · simp at hw; subst hw; exact hv
    · simp at hw
  · exact mz_H_ls hH hw
theorem mz_D_ok {i : Nat} {ins : Instr} {len : Nat} (h : mz_D k i ins len = true) : decode (mz_b k) (mz_pc k i) = .ok (ins, len) ∧ mz_pc k (i + 1) = mz_pc k i + len := by
  unfold mz_D at h
  rw [Bool.and_eq_true, decide_eq_true_eq, beq_iff_eq] at h
  exact h
theorem mz_J_ok {i : Nat} {ins : Instr} {off : Int} {a : Nat} (h : mz_J k i ins off a = true) : decode (mz_b k) (mz_pc k i) = .ok (ins, 3) ∧ mz_pc k (i + 1) = mz_pc k i + 3 ∧ (mz_pc k i : Int) + off = (mz_pc k a : Int) := by
  unfold mz_J at h
  rw [Bool.and_eq_true, decide_eq_true_eq] at h
  obtain ⟨h1, h2⟩ := mz_D_ok h.1
  exact ⟨h1, h2, h.2⟩
theorem mz_v_i {n : Int} : mz_v ad sK sV vF (.inl n) = .int (Int32.ofInt n) := rfl
theorem mz_v_n : mz_v ad sK sV vF (.inr none) = .null := rfl
theorem mz_ad (x y : Int) : Int32.ofInt x + Int32.ofInt y = Int32.ofInt (x + y) := (Int32.ofInt_add ..).symm
theorem mz_sb (x y : Int) : Int32.ofInt x - Int32.ofInt y = Int32.ofInt (x - y) := (Int32.ofInt_sub ..).symm
theorem mz_ml (x y : Int) : Int32.ofInt x * Int32.ofInt y = Int32.ofInt (x * y) := (Int32.ofInt_mul ..).symm
theorem mz_dv {x y : Int} (hx : mz_w x) (hy : mz_w y) (h0 : 0 < y) (h1 : 0 ≤ x) : Int32.ofInt x / Int32.ofInt y = Int32.ofInt (x / y) := by
  unfold mz_w at hx hy
  rw [← Int.tdiv_eq_ediv_of_nonneg h1]
  refine (Int32.ofInt_tdiv ?_ ?_ ?_ ?_).symm <;> first | (show (-2147483648 : Int) ≤ _; omega) | (show _ ≤ (2147483647 : Int); omega) | (show _ < (2147483648 : Int); omega)
theorem mz_rm {x y : Int} (hx : mz_w x) (hy : mz_w y) (h0 : 0 < y) (h1 : 0 ≤ x) : Int32.ofInt x - Int32.ofInt x / Int32.ofInt y * Int32.ofInt y = Int32.ofInt (x % y) := by
  rw [mz_dv hx hy h0 h1, mz_ml, mz_sb, Int.emod_def, Int.mul_comm]
theorem mz_n0 {y : Int} (hy : mz_w y) (h : 0 < y) : ¬ Int32.ofInt y = 0 := by
  intro q
  have := (mz_eqI hy mz_w0).mp q
  omega
theorem mz_wdiv {x y : Int} (hx : mz_w x) (h0 : 0 < y) (h1 : 0 ≤ x) : mz_w (x / y) := by
  have h2 := Int.ediv_nonneg h1 (Int.le_of_lt h0)
  have h3 := Int.ediv_le_self y h1
  unfold mz_w at hx ⊢
  omega
theorem mz_wmod {x y : Int} (hy : mz_w y) (h0 : 0 < y) : mz_w (x % y) := by
  have h2 := Int.emod_nonneg x (by omega : y ≠ 0)
  have h3 := Int.emod_lt_of_pos x h0
  unfold mz_w at hy ⊢
  omega
end Sn2
