/-! Steps of the small machine's rows for a method that is not all of it, and the contract of a method that may throw. -/
def xw_nw : List Cond := [.castable xw_IAE xw_IAE, .castable xw_NSE xw_NSE, .castable xw_IOB xw_IOB, .declares (Bundle.initS xw_Y), .declares (Bundle.initS xw_E), .declares (Bundle.initS Bundle.tN)]
def xw_T (β : Nat → Prop) (U : State) : Prop := (∀ w ∈ xw_nw, va_Nw w U) ∧ vx_Zq Bundle.tN "UNASSIGNED_STACK" Bundle.steD β U U.heap ∧ vx_Zq Bundle.tN "SUPPRESSED_SENTINEL" Bundle.listD β U U.heap
theorem xw_nw_on : ∀ w ∈ xw_nw, w.onTables = true := by
  intro w hw
  simp only [xw_nw, List.mem_cons, List.not_mem_nil, or_false] at hw
  rcases hw with rfl | rfl | rfl | rfl | rfl | rfl <;> rfl
theorem xw_T_go {β : Nat → Prop} {s U : State} (h : xw_T β s) (hW : s.WarmedH U.vm) (hq : ∀ a : Nat, a < s.heap.size → ¬ β a → U.heap[a]? = s.heap[a]?) : xw_T β U := by
  obtain ⟨h1, h2, h3⟩ := h
  refine ⟨fun w hw => ?_, (vx_Zq.moved hW.alike h2).kept hq, (vx_Zq.moved hW.alike h3).kept hq⟩
  have h9 := h1 w hw
  simp only [xw_nw, List.mem_cons, List.not_mem_nil, or_false] at hw
  rcases hw with rfl | rfl | rfl | rfl | rfl | rfl
  · exact va_Nw.warmC hW h9
  · exact va_Nw.warmC hW h9
  · exact va_Nw.warmC hW h9
  · exact va_Nw.warmD hW h9
  · exact va_Nw.warmD hW h9
  · exact va_Nw.warmD hW h9
theorem xw_T_same {β : Nat → Prop} {u U : State} (hv : u.vm = U.vm) (hh : U.heap = u.heap) (h : xw_T β u) : xw_T β U := by
  obtain ⟨h1, h2, h3⟩ := h
  have ha : u.vm.Alike U.vm := by rw [hv]; exact Vm.Alike.refl _
  exact ⟨fun w hw => va_Nw.same (xw_nw_on w hw) hv (h1 w hw), by rw [hh]; exact vx_Zq.moved ha h2, by rw [hh]; exact vx_Zq.moved ha h3⟩
theorem xw_T_narrow {β γ : Nat → Prop} {U : State} (h : xw_T β U) (hb : ∀ q, γ q → β q) : xw_T γ U := ⟨h.1, h.2.1.narrow hb, h.2.2.narrow hb⟩
/-- words by their places in the tables, and those that the context holds -/
def xw_chk : List Cond → List Nat → Bool
  | [], _ => true
  | w :: L, p :: ps => (mz_W p w || decide (w ∈ xw_nw)) && xw_chk L ps
  | _ :: _, [] => false
theorem xw_chk_ok {args : Array Value} {s : State} (hts : ∀ w ∈ mz_gw, w.before args s = true) (hn : ∀ w ∈ xw_nw, va_Nw w s) : ∀ {L : List Cond} {ps : List Nat}, xw_chk L ps = true → ∀ w ∈ L, w.before args s = true := by
  intro L
  induction L with
  | nil => intro ps _ w hw; cases hw
  | cons x L ih =>
    intro ps h w hw
    cases ps with
    | nil => simp [xw_chk] at h
    | cons p ps =>
      simp only [xw_chk, Bool.and_eq_true, Bool.or_eq_true, decide_eq_true_eq] at h
      rcases List.mem_cons.mp hw with rfl | hw
      · rcases h.1 with h1 | h1
        · exact hts _ (mz_W_ok h1)
        · exact va_Nw.use (xw_nw_on _ h1) (hn _ h1)
      · exact ih h.2 w hw
def xw_psA : List Nat := [1018, 5187, 5196, 5200, 5203, 5205, 5188, 5189, 1031, 1032, 5190, 5195, 5201, 5221, 5177, 5222, 5179, 5223, 5181, 5191, 5193, 5183, 5217, 5218, 5220, 5183, 5208, 5209, 5210, 5211, 0, 5211, 5212, 5213, 5214, 0, 5214, 5215, 5216, 5217, 0, 5207, 5166, 0, 5174, 5175, 5176, 5178, 5180, 5182, 5186, 5185, 5184]
def xw_psN : List Nat := [1018, 5187, 5196, 5200, 5203, 5205, 5188, 5189, 1031, 1032, 5190, 5195, 5201, 5221, 5177, 5222, 5179, 5223, 5181, 5191, 5193, 5183, 5217, 5218, 5220, 5183, 6020, 6021, 6022, 5211, 0, 5211, 5212, 5213, 5214, 0, 5214, 5215, 5216, 5217, 0, 6019, 6010, 0, 6012, 5199, 6013, 6014, 6015, 6016, 5186, 5185, 6017]
def xw_psI : List Nat := [1018, 5187, 5196, 5200, 5203, 5205, 5188, 5189, 1031, 1032, 5190, 5195, 5201, 5221, 5177, 5222, 5179, 5223, 5181, 5191, 5193, 5183, 5217, 5218, 5220, 5183, 6055, 6056, 6057, 5211, 0, 5211, 5212, 5213, 5214, 0, 5214, 5215, 5216, 5217, 0, 6054, 6045, 0, 6047, 5198, 6048, 6049, 6050, 6051, 5186, 5185, 6052]
theorem xw_okA : xw_chk (xw_at RX8 85 xw_IAE 7 Bundle.six) xw_psA = true := by decide +kernel
theorem xw_okN : xw_chk (xw_at RX8 247 xw_NSE 13 prog_29_method_4_code) xw_psN = true := by decide +kernel
theorem xw_okI : xw_chk (xw_at RX8 277 xw_IOB 7 Bundle.six) xw_psI = true := by decide +kernel
theorem xw_gdA : ∀ w ∈ xw_at RX8 85 xw_IAE 7 Bundle.six, vx_ot w = true := by
  have h : (xw_at RX8 85 xw_IAE 7 Bundle.six).all vx_ot = true := by decide +kernel
  exact fun w hw => List.all_eq_true.mp h w hw
theorem xw_gdN : ∀ w ∈ xw_at RX8 247 xw_NSE 13 prog_29_method_4_code, vx_ot w = true := by
  have h : (xw_at RX8 247 xw_NSE 13 prog_29_method_4_code).all vx_ot = true := by decide +kernel
  exact fun w hw => List.all_eq_true.mp h w hw
theorem xw_gdI : ∀ w ∈ xw_at RX8 277 xw_IOB 7 Bundle.six, vx_ot w = true := by
  have h : (xw_at RX8 277 xw_IOB 7 Bundle.six).all vx_ot = true := by decide +kernel
  exact fun w hw => List.all_eq_true.mp h w hw
section XwK
variable {p : Program} {l : Launch} {e : Env} {R : Room} {s : State} {m : MethodId} {args : Array Value} {below : List Frame} {meth : Method} {c : Code} {D : va_G} {cy : Nat → ClassId} {sK sV : Nat → Nat} {vF : Value} {β : Nat → Prop} {Q : State → Prop} {ade ad : Nat → Nat} {te se : Nat} {k i a c9 x9 y9 : Nat} {b : Int} {σ σ0 : mz_S} {ls : mz_Ls} {st : List mz_V} {lsA : Array Slot} {H : Heap} {locs : List Loc}
abbrev xw_K (p : Program) (l : Launch) (e : Env) (R : Room) (s : State) (m : MethodId) (args : Array Value) (below : List Frame) (meth : Method) (c : Code) (D : va_G) (cy : Nat → ClassId) (sK sV : Nat → Nat) (vF : Value) (β : Nat → Prop) (Q : State → Prop) (ade : Nat → Nat) (k i : Nat) (ls : mz_Ls) (st : List mz_V) (M : mz_M) : Prop := mz_K p l e R s m args below meth c D cy sK sV vF β Q ade 167 0 k i ls st (mz_fu M)
variable {M M1 : mz_M}
theorem xw_0 (hF : mz_F p R s m args meth c D cy sK sV vF β k) (hc : mz_ch0 k i 0 a b c9 x9 y9 = true) (hK : xw_K p l e R s m args below meth c D cy sK sV vF β Q ade k (i + 1) ls (mz_i b :: st) M) : xw_K p l e R s m args below meth c D cy sK sV vF β Q ade k i ls st M := mz_sA hF hc hK
theorem xw_1 {v : Int} (hF : mz_F p R s m args meth c D cy sK sV vF β k) (hc : mz_ch0 k i 1 a b c9 x9 y9 = true) (h : ls[a]? = some (some (mz_i v))) (hK : xw_K p l e R s m args below meth c D cy sK sV vF β Q ade k (i + 1) ls (mz_i v :: st) M) : xw_K p l e R s m args below meth c D cy sK sV vF β Q ade k i ls st M := mz_sA hF hc (mz_lk_of h hK)
theorem xw_2 {t n o : Nat} (hF : mz_F p R s m args meth c D cy sK sV vF β k) (hc : mz_ch0 k i 2 a b c9 x9 y9 = true) (h : ls[a]? = some (some (mz_r t n o))) (hK : xw_K p l e R s m args below meth c D cy sK sV vF β Q ade k (i + 1) ls (mz_r t n o :: st) M) : xw_K p l e R s m args below meth c D cy sK sV vF β Q ade k i ls st M := mz_sA hF hc (mz_lk_of h hK)
theorem xw_3 {v : Int} (hF : mz_F p R s m args meth c D cy sK sV vF β k) (hc : mz_ch0 k i 3 a b c9 x9 y9 = true) (hK : xw_K p l e R s m args below meth c D cy sK sV vF β Q ade k (i + 1) (ls.set a (some (mz_i v))) st M) : xw_K p l e R s m args below meth c D cy sK sV vF β Q ade k i ls (mz_i v :: st) M := mz_sA hF hc hK
theorem xw_6 {x y : Int} (hF : mz_F p R s m args meth c D cy sK sV vF β k) (hc : mz_ch0 k i 6 a b c9 x9 y9 = true) (hw : mz_w (x + y)) (hK : xw_K p l e R s m args below meth c D cy sK sV vF β Q ade k (i + 1) ls (mz_i (x + y) :: st) M) : xw_K p l e R s m args below meth c D cy sK sV vF β Q ade k i ls (mz_i y :: mz_i x :: st) M := mz_sA hF hc ⟨hw, hK⟩
theorem xw_7 {x y : Int} (hF : mz_F p R s m args meth c D cy sK sV vF β k) (hc : mz_ch0 k i 7 a b c9 x9 y9 = true) (hw : mz_w (x - y)) (hK : xw_K p l e R s m args below meth c D cy sK sV vF β Q ade k (i + 1) ls (mz_i (x - y) :: st) M) : xw_K p l e R s m args below meth c D cy sK sV vF β Q ade k i ls (mz_i y :: mz_i x :: st) M := mz_sA hF hc ⟨hw, hK⟩
theorem xw_18 {v : mz_V} (hF : mz_F p R s m args meth c D cy sK sV vF β k) (hc : mz_ch0 k i 18 a b c9 x9 y9 = true) (hK : xw_K p l e R s m args below meth c D cy sK sV vF β Q ade k (i + 1) ls (v :: v :: st) M) : xw_K p l e R s m args below meth c D cy sK sV vF β Q ade k i ls (v :: st) M := mz_sA hF hc hK
theorem xw_25 {x y : Int} (hF : mz_F p R s m args meth c D cy sK sV vF β k) (hc : mz_ch0 k i 25 a b c9 x9 y9 = true) (h1 : x ≤ y → xw_K p l e R s m args below meth c D cy sK sV vF β Q ade k a ls st M) (h2 : ¬ x ≤ y → xw_K p l e R s m args below meth c D cy sK sV vF β Q ade k (i + 1) ls st M) : xw_K p l e R s m args below meth c D cy sK sV vF β Q ade k i ls (mz_i y :: mz_i x :: st) M := by
  refine mz_sA hF hc ?_
  show if x ≤ y then _ else _
  by_cases h : x ≤ y
  · rw [if_pos h]; exact h1 h
  · rw [if_neg h]; exact h2 h
theorem xw_27 {x : Int} (hF : mz_F p R s m args meth c D cy sK sV vF β k) (hc : mz_ch0 k i 27 a b c9 x9 y9 = true) (h1 : x = 0 → xw_K p l e R s m args below meth c D cy sK sV vF β Q ade k (i + 1) ls st M) (h2 : ¬ x = 0 → xw_K p l e R s m args below meth c D cy sK sV vF β Q ade k a ls st M) : xw_K p l e R s m args below meth c D cy sK sV vF β Q ade k i ls (mz_i x :: st) M := by
  refine mz_sA hF hc ?_
  show if x = 0 then _ else _
  by_cases h : x = 0
  · rw [if_pos h]; exact h1 h
  · rw [if_neg h]; exact h2 h
theorem xw_36 {z o : Nat} (hF : mz_F p R s m args meth c D cy sK sV vF β k) (hc : mz_ch1 k i 36 a b c9 x9 y9 = true) (hK : xw_K p l e R s m args below meth c D cy sK sV vF β Q ade k (i + 1) ls (mz_i (M o a) :: st) M) : xw_K p l e R s m args below meth c D cy sK sV vF β Q ade k i ls (mz_r c9 z o :: st) M :=
  mz_s36 (σ0 := mz_fu M) (call := fun _ _ _ _ => False) (rt := fun _ _ => False) hF hc ⟨rfl, mz_gr_rf, hK⟩
theorem xw_37 {z o u n f : Nat} (hF : mz_F p R s m args meth c D cy sK sV vF β k) (hc : mz_ch1 k i 37 a b c9 x9 y9 = true) (hf : mz_fr c9 a = some (u, n, f)) (hK : xw_K p l e R s m args below meth c D cy sK sV vF β Q ade k (i + 1) ls (mz_r u n (o + f) :: st) M) : xw_K p l e R s m args below meth c D cy sK sV vF β Q ade k i ls (mz_r c9 z o :: st) M := by
  refine mz_s37 (σ0 := mz_fu M) (call := fun _ _ _ _ => False) (rt := fun _ _ => False) hF hc ⟨rfl, rfl, ?_⟩
  rw [hf]
  exact ⟨mz_gr_rf, hK⟩
theorem xw_38 {z o : Nat} {v : Int} (hF : mz_F p R s m args meth c D cy sK sV vF β k) (hc : mz_ch1 k i 38 a b c9 x9 y9 = true) (hK : xw_K p l e R s m args below meth c D cy sK sV vF β Q ade k (i + 1) ls st (mz_up M o a v)) : xw_K p l e R s m args below meth c D cy sK sV vF β Q ade k i ls (mz_i v :: mz_r c9 z o :: st) M :=
  mz_s38 (σ0 := mz_fu M) (call := fun _ _ _ _ => False) (rt := fun _ _ => False) hF hc ⟨rfl, mz_gr_rf, hK⟩
set_option maxRecDepth 10000 in
theorem xw_49 {v : mz_V} (hR : R.cells = 1 ∧ R.slots = 6) (hF : mz_F p R s m args meth c D cy sK sV vF β k) (hc : mz_ch1 k i 49 a b c9 x9 y9 = true) (as rest : List mz_V) (hn : as.length = c9) (h8 : rest.length ≤ 8) (ha : a < 300) (h : sp a as M (some v) M1) (hK : xw_K p l e R s m args below meth c D cy sK sV vF β Q ade k (i + 1) ls (v :: rest) M1) : xw_K p l e R s m args below meth c D cy sK sV vF β Q ade k i ls (as.reverse ++ rest) M := by
  refine mz_s49 (σ0 := ((168, 6, fun _ _ => true, M) : mz_S)) (rt := fun _ _ => False) hR mz_okA hF hc ?_
  refine mz_pop_of (acc := []) hn ?_
  rw [List.append_nil]
  exact ⟨h8, some v, mz_fu M1, mz_gr_rf, fun hS hw hn ad => mz_contract mz_okA ha h hS hw hn ad, ⟨show 167 ≤ 168 by omega, show 0 ≤ 6 by omega⟩, hK⟩
set_option maxRecDepth 10000 in
theorem xw_50 {v : mz_V} (hR : R.cells = 1 ∧ R.slots = 6) (hF : mz_F p R s m args meth c D cy sK sV vF β k) (hc : mz_ch1 k i 50 a b c9 x9 y9 = true) (as rest : List mz_V) (hn : as.length = c9) (hr : mz_rc b as) (h8 : rest.length ≤ 8) (ha : a < 300) (h : sp a as M (some v) M1) (hK : xw_K p l e R s m args below meth c D cy sK sV vF β Q ade k (i + 1) ls (v :: rest) M1) : xw_K p l e R s m args below meth c D cy sK sV vF β Q ade k i ls (as.reverse ++ rest) M := by
  refine mz_s50 (σ0 := ((168, 6, fun _ _ => true, M) : mz_S)) (rt := fun _ _ => False) hR mz_okA hF hc ?_
  refine mz_pop_of (acc := []) hn ?_
  rw [List.append_nil]
  exact ⟨hr, h8, some v, mz_fu M1, mz_gr_rf, fun hS hw hn ad => mz_contract mz_okA ha h hS hw hn ad, ⟨show 167 ≤ 168 by omega, show 0 ≤ 6 by omega⟩, hK⟩
set_option maxRecDepth 10000 in
theorem xw_50v (hR : R.cells = 1 ∧ R.slots = 6) (hF : mz_F p R s m args meth c D cy sK sV vF β k) (hc : mz_ch1 k i 50 a b c9 x9 y9 = true) (as rest : List mz_V) (hn : as.length = c9) (hr : mz_rc b as) (h8 : rest.length ≤ 8) (ha : a < 300) (h : sp a as M none M1) (hK : xw_K p l e R s m args below meth c D cy sK sV vF β Q ade k (i + 1) ls rest M1) : xw_K p l e R s m args below meth c D cy sK sV vF β Q ade k i ls (as.reverse ++ rest) M := by
  refine mz_s50 (σ0 := ((168, 6, fun _ _ => true, M) : mz_S)) (rt := fun _ _ => False) hR mz_okA hF hc ?_
  refine mz_pop_of (acc := []) hn ?_
  rw [List.append_nil]
  exact ⟨hr, h8, none, mz_fu M1, mz_gr_rf, fun hS hw hn ad => mz_contract mz_okA ha h hS hw hn ad, ⟨show 167 ≤ 168 by omega, show 0 ≤ 6 by omega⟩, hK⟩
/-! the contract -/
def xw_Pc (D : va_G) (cy : Nat → ClassId) (sK sV : Nat → Nat) (vF : Value) (β : Nat → Prop) (ad : Nat → Nat) (σ : mz_S) (as : List mz_V) : Array Value → State → Prop := va_Pc (as.map (mz_v ad sK sV vF)) (fun U => va_P D vwCl (mz_ws ad cy σ) U.heap ∧ va_D β (mz_ws ad cy σ) ∧ mz_Cx D cy sK sV vF β U ∧ xw_T β U)
def xw_Q (D : va_G) (cy : Nat → ClassId) (sK sV : Nat → Nat) (vF : Value) (β : Nat → Prop) (ad : Nat → Nat) (M1 : mz_M) (res : Option Int) : Array Value → State → Outcome → State → Prop := fun a st o t => ∃ v, res = some v ∧ mz_Q D cy sK sV vF β ad 167 (some (mz_i v)) (mz_fu M1) a st o t
def xw_X (D : va_G) (cy : Nat → ClassId) (β : Nat → Prop) (E0 : String) (ad : Nat → Nat) (M1 : mz_M) (res : Option Int) : String → State → State → Prop := fun E st t => res = none ∧ E = E0 ∧ ∃ ad', (∀ q, q < 167 → ad' q = ad q) ∧ va_P D vwCl (mz_ws ad' cy (mz_fu M1)) t.heap ∧ va_D β (mz_ws ad' cy (mz_fu M1)) ∧ va_F β st t ∧ mz_wS (mz_fu M1)
def xw_rm (k : Nat) : Room := { frames := mz_dep k, cells := 1, slots := 6, locals := 60 * mz_dep k }
def xw_Met (l : Launch) (D : va_G) (cy : Nat → ClassId) (sK sV : Nat → Nat) (vF : Value) (β : Nat → Prop) (k : Nat) (E0 : String) (ad : Nat → Nat) (as : List mz_V) (M : mz_M) (res : Option Int) (M1 : mz_M) : Prop :=
  vx_Met l (mz_y k) (mz_wsk k) (xw_rm k) (xw_Pc D cy sK sV vF β ad (mz_fu M) as) (xw_Q D cy sK sV vF β ad M1 res) (xw_X D cy β E0 ad M1 res) 1 6 β
theorem xw_blind {as : List mz_V} : FrameBlind (xw_Pc D cy sK sV vF β ad σ as) := fun _ U _ _ q => ⟨q.1, q.2.1, q.2.2.1, mz_Cx_same (u := U) rfl rfl q.2.2.2.1, xw_T_same (u := U) rfl rfl q.2.2.2.2⟩
set_option maxRecDepth 10000 in
theorem xw_met {E0 : String} {res : Option Int} {as : List mz_V} (hmok : mz_ok k = true) (hn : as.length = mz_na k) (hS : mz_wS (mz_fu M)) (hw : ∀ v ∈ as, mz_wf (mz_fu M) v)
    (body : ∀ {p : Program} {e : Env} {R : Room} {s : State} {m : MethodId} {args : Array Value} {below : List Frame} {meth : Method} {c : Code}, mz_F p R s m args meth c D cy sK sV vF β k → R.cells = 1 ∧ R.slots = 6 → xw_T β s → (∀ x ∈ c.exceptionTable.toList, False) →
      xw_K p l e R s m args below meth c D cy sK sV vF β (vx_MQ below (xw_Q D cy sK sV vF β ad M1 res) (xw_X D cy β E0 ad M1 res) args s 1 6 β) ad k 0 (mz_ent k as) [] M) : xw_Met l D cy sK sV vF β k E0 ad as M res M1 := by
  obtain ⟨m1, m2, m3, m4, m5, m6, m7, m8, m9, m10⟩ := mz_mok_ok hmok
  unfold xw_Met
  refine vx_ofW (cc := mz_b k) (maxL := mz_L k) (ret := mz_rt k) m1 rfl ?_
  intro p e s m args below meth c s₁ B hml hex hv
  obtain ⟨rfl, hP, hD, hCx, hT⟩ := hv
  have hts0 := atoms_spec (ws := mz_wsk k) B.pre
  have hF : mz_F p (headSpec (mz_wsk k) (xw_rm k)).room s m (as.map (mz_v ad sK sV vF)).toArray meth c D cy sK sV vF β k :=
    ⟨B.exec, B.bytes, B.returns, hml, findClass_of_methodNamed B.named, B.notSynchronized, (name_of_methodNamed B.named B.method).1, fun w hw => hts0 w (List.mem_cons_of_mem _ hw), hCx, Nat.le_refl _, Nat.le_refl _⟩
  have hK := body (e := e) (below := below) hF ⟨rfl, rfl⟩ hT hex
  have hcat : ∀ v ∈ as.map (mz_v ad sK sV vF), v.category = 1 := fun v hv => by
    obtain ⟨w, -, rfl⟩ := List.mem_map.mp hv
    exact mz_cat hCx.2.2.2.2.2.2.1 ad sK sV w
  have hl := lv_entry (as.map (mz_v ad sK sV vF)) (n := mz_L k) (by rw [mz_sl_len hcat, List.length_map, hn]; exact m7)
  rw [lg_entry_eq]
  generalize (lg_sl (as.map (mz_v ad sK sV vF)) ++ List.replicate (mz_L k - (lg_sl (as.map (mz_v ad sK sV vF))).length) Slot.unset).toArray = lsA at hl ⊢
  have hH : mz_H s D cy sK sV vF β k ad (mz_fu M) (mz_ent k as) [] lsA s.heap [] := by
    refine ⟨hP, hD, va_S.rf, hS, fun v hv => (by cases hv), fun a v hv => hw v (List.mem_of_getElem? (mz_ent_at hv)), ⟨hl.1, hl.2.1, fun q hq => ?_⟩, ?_⟩
    · obtain ⟨v, e1, e2⟩ := mz_lv_mem.mp hq
      refine hl.2.2 q ?_
      have := mz_args_mem hcat (i := 0) (j := q.1) (v := q.2) (by rw [List.getElem?_map, mz_ent_at e1, e2]; rfl)
      rwa [Nat.zero_add] at this
    · unfold mz_ent
      rw [List.length_append, List.length_map, List.length_replicate, hn]
      omega
  have hw2 := hK ad lsA s.heap [] (fun _ _ => rfl) (Nat.le_refl _) (Nat.le_refl _) hH
  rw [m8] at hw2
  exact hw2
/-- the end with an int -/
theorem xw_ret {E0 : String} {v : Int} {cells slots pc : Nat} (hF : mz_F p R s m args meth c D cy sK sV vF β k) (hd : decode (mz_b k) pc = .ok (.ireturn, 1)) (hrt : mz_rt k = some .int) (h1 : ∀ o, o < 167 → ad o = ade o) (hP : va_P D vwCl (mz_ws ad cy (mz_fu M)) H) (hD : va_D β (mz_ws ad cy (mz_fu M))) (hS : va_S β s.heap H locs) (hwS : mz_wS (mz_fu M)) (hw : mz_w v) (hc : cells ≤ 1) (hs : slots ≤ 6) :
    W p l e R s m args below meth c H locs cells slots (vx_MQ below (xw_Q D cy sK sV vF β ade M (some v)) (xw_X D cy β E0 ade M (some v)) args s 1 6 β) (F0 m pc lsA [.int (Int32.ofInt v)]) := by
  obtain ⟨hx, hb, hr, hml, hown, hlk, hnm, hts, hCx, hfr, hlo⟩ := hF
  refine W.widen hc hs (vx_ret (W.iret (hlocks := hlk) hx hb (by rw [hr]; exact hrt) (fun t ht _ => ⟨v, rfl, ad, h1, rfl, by rw [ht]; exact hP, hD, hS.F ht, hwS, fun w hw9 => ?_⟩) hS.2.2 hd))
  cases hw9
  exact hw
theorem xw_55 {E0 : String} {v : Int} (hF : mz_F p R s m args meth c D cy sK sV vF β k) (hd : decode (mz_b k) (mz_pc k i) = .ok (.ireturn, 1)) (hrt : mz_rt k = some .int) : xw_K p l e R s m args below meth c D cy sK sV vF β (vx_MQ below (xw_Q D cy sK sV vF β ade M (some v)) (xw_X D cy β E0 ade M (some v)) args s 1 6 β) ade k i ls [mz_i v] M := by
  intro ad lsA H locs h1 h2 h3 hH
  exact xw_ret hF hd hrt h1 hH.1 hH.2.1 hH.2.2.1 hH.2.2.2.1 (mz_H_hd hH) (by show 167 - 167 ≤ 1; omega) (by show 0 - 0 ≤ 6; omega)
/-- 'throw new .. ("..")' -/
theorem xw_site {cls text : String} {ik is ic i1 n j pk pi : Nat} {b1 : ByteArray} {ps : List Nat} (hF : mz_F p R s m args meth c D cy sK sV vF β k) (hE : ∀ x ∈ c.exceptionTable.toList, False) (hT : xw_T β s) (hl : l.stackTraces = false) (hR : R.cells = 1 ∧ R.slots = 6) (hdp : 6 ≤ mz_dep k) (hcls : Bundle.fit cls = true)
    (k0 : decode b1 0 = .ok (.aload_n 0, 1)) (k1 : decode b1 1 = .ok (.aload_n 1, 1)) (k2 : decode b1 2 = .ok (.invokespecial i1, 3)) (k5 : decode b1 5 = .ok (.return_, 1))
    (hk : mz_W pk (.classLink (mz_y k).cls ik cls) = true) (hini : mz_W pi (.initialized cls) = true) (hso : mz_so[j]? = some ((mz_y k).cls, is, text)) (hat : xw_chk (xw_at (mz_y k).cls ic cls i1 b1) ps = true) (hgd : ∀ w ∈ xw_at (mz_y k).cls ic cls i1 b1, vx_ot w = true)
    {pc : Nat} (hpc : mz_pc k i = pc) (d0 : decode (mz_b k) pc = .ok (.new ik, 3)) (d3 : decode (mz_b k) (pc + 3) = .ok (.dup, 1)) (d4 : (n = 2 ∧ decode (mz_b k) (pc + 4) = .ok (.ldc is, 2)) ∨ (n = 3 ∧ decode (mz_b k) (pc + 4) = .ok (.ldc_w is, 3))) (d6 : decode (mz_b k) (pc + 4 + n) = .ok (.invokespecial ic, 3)) (d9 : decode (mz_b k) (pc + 4 + n + 3) = .ok (.athrow, 1)) :
    xw_K p l e R s m args below meth c D cy sK sV vF β (vx_MQ below (xw_Q D cy sK sV vF β ade M none) (xw_X D cy β cls ade M none) args s 1 6 β) ade k i ls [] M := by
  obtain ⟨hx, hb, hr, hml, hown, hlk, hnm, hts, hCx, hfr, hlo⟩ := hF
  intro ad lsA H locs h1 h2 h3 hH
  subst hpc
  refine xw_throw hx hb hl hown hcls k0 k1 k2 k5 (hts _ (mz_W_ok hk)) (hts _ (mz_W_ok hini)) (hCx.2.2.1 j _ hso) (xw_chk_ok hts hT.1 hat) hgd hT.2.1 hT.2.2 hH.2.2.1 (hH.2.2.2.2.2.2.1.1.trans hml.symm) d0 d3 d4 d6 d9 (fun x hx => (hE x hx).elim)
    (by omega) (by show 0 + 82 ≤ R.locals; omega) (by show 167 - 167 + 1 ≤ R.cells; omega) (by show 0 - 0 + 6 ≤ R.slots; omega) hlk (fun t _ t1 t2 => ⟨rfl, rfl, ad, h1, fun q x hq => ?_, hH.2.1, ⟨Nat.le_trans hH.2.2.1.1 t1, fun q q1 q2 => ?_⟩, hH.2.2.2.1⟩) hH.2.2.1.2.2 (by show 167 - 167 + 1 ≤ 1; omega) (by show 0 - 0 + 6 ≤ 6; omega)
  · exact (hH.1 q x hq).kept (t2 _ (hH.1 q x hq).lt)
  · rw [t2 q (Nat.lt_of_lt_of_le q1 hH.2.2.1.1)]
    exact hH.2.2.1.2.1 q q1 q2
/-- behind a call of a method that may throw -/
theorem xw_after {A : Nat → Prop} {E0 : String} {res : Option Int} {cells slots pc : Nat} {stk rest : List Value} {aa : Array Value} (hS : va_S A s.heap H locs) (hA : ∀ q, β q → A q)
    (hr : vx_Run p l e R s m args below meth c H locs cells slots 1 6 (F0 m pc lsA stk) rest (xw_Q D cy sK sV vF β ad M1 res aa) (xw_X D cy β E0 ad M1 res) β)
    (hx : res = none → ∀ (q : Addr) (ce : Cell) (ad' : Nat → Nat) (H1 : Heap) (locs1 : List Loc), (∀ q, q < 167 → ad' q = ad q) → va_P D vwCl (mz_ws ad' cy (mz_fu M1)) H1 → va_D β (mz_ws ad' cy (mz_fu M1)) → mz_wS (mz_fu M1) → H.size ≤ H1.size → (∀ q : Nat, q < H.size → ¬ β q → H1[q]? = H[q]?) → va_S A s.heap H1 locs1 → H1[q]? = some ce → ce.vm = .none → s.vm.findClass E0 = some ce.cls →
      vx_W p l e R s m args below meth c H1 locs1 (cells + 1) (slots + 6) Q (F0 m pc lsA rest) q)
    (hk : ∀ v, res = some v → ∀ (ad' : Nat → Nat) (H1 : Heap) (locs1 : List Loc), (∀ q, q < 167 → ad' q = ad q) → va_P D vwCl (mz_ws ad' cy (mz_fu M1)) H1 → va_D β (mz_ws ad' cy (mz_fu M1)) → mz_wS (mz_fu M1) → H.size ≤ H1.size → (∀ q : Nat, q < H.size → ¬ β q → H1[q]? = H[q]?) → va_S A s.heap H1 locs1 → mz_w v →
      W p l e R s m args below meth c H1 locs1 (cells + 1) (slots + 6) Q (F0 m (pc + 3) lsA (.int (Int32.ofInt v) :: rest))) :
    W p l e R s m args below meth c H locs cells slots Q (F0 m pc lsA stk) := by
  intro T hT X
  rcases hr T hT X with ⟨v, st₀, t, T', L, h0, X', hL, e1, e2, ⟨v9, hv9, ad', q1, q2, q3, q4, q5, q6, q7⟩, st⟩ | ⟨q, st₀, t, T', L, E, ce, h0, X', hL, e1, e2, ⟨hn, rfl, ad', q1, q3, q4, q5, q6⟩, hce, hcv, hcl, st⟩
  · have hv : v = some (.int (Int32.ofInt v9)) := Outcome.returned.inj q2
    subst hv
    obtain ⟨k1, k2, k3⟩ := vx_keep h0 e1 hS (fun q _ => hA q) hA hL q5
    obtain ⟨t2, a1, b1⟩ := hk v9 hv9 ad' T'.heap (locs ++ L) q1 (by rw [e1]; exact q3) q4 q6 k1 k2 k3 (q7 _ rfl) T' rfl X'
    exact ⟨t2, st t2 a1, b1⟩
  · obtain ⟨k1, k2, k3⟩ := vx_keep h0 e1 hS (fun q _ => hA q) hA hL q5
    obtain ⟨t2, a1, b1⟩ := hx hn q ce ad' T'.heap (locs ++ L) q1 (by rw [e1]; exact q3) q4 q6 k1 k2 k3 (by rw [e1]; exact hce) hcv hcl T' rfl X'
    exact ⟨t2, st.trans a1, b1⟩
/-- a caller that hands on what its callee answers: the call, then the end -/
theorem xw_tail {E0 : String} {res : Option Int} {kc x yl : Nat} {as : List mz_V} (hF : mz_F p R s m args meth c D cy sK sV vF β k) (hE : ∀ x ∈ c.exceptionTable.toList, False) (hT : xw_T β s) (hR : R.cells = 1 ∧ R.slots = 6) (hrt : mz_rt k = some .int)
    (hM : mz_wS (mz_fu M) → ∀ ad : Nat → Nat, xw_Met l D cy sK sV vF β kc E0 ad (mz_r 8 0 0 :: as) M res M1) (hok : mz_ok kc = true) (hcls : (mz_y kc).cls = RX8) (hn : as.length + 1 = mz_na kc) (hdp : mz_dep kc < mz_dep k)
    (hlk : mz_W yl (.methodLink (mz_y k).cls x (mz_y kc)) = true) (hin : mz_W (mz_wp kc).2.1 (.instanceMethod (mz_y kc)) = true) (hse : mz_W (mz_wp kc).2.2.1 (.selects (mz_y kc).cls (mz_y kc) (mz_y kc)) = true)
    {pc : Nat} (hpc : mz_pc k i = pc) (d0 : decode (mz_b k) pc = .ok (.invokevirtual x, 3)) (d3 : decode (mz_b k) (pc + 3) = .ok (.ireturn, 1)) :
    xw_K p l e R s m args below meth c D cy sK sV vF β (vx_MQ below (xw_Q D cy sK sV vF β ade M1 res) (xw_X D cy β E0 ade M1 res) args s 1 6 β) ade k i ls (as.reverse ++ [mz_r 8 0 0]) M := by
  have hF0 := hF
  obtain ⟨hx, hb, hr, hml, hown, hlk9, hnm, hts, hCx, hfr, hlo⟩ := hF
  intro ad lsA H locs h1 h2 h3 hH
  subst hpc
  obtain ⟨m1, m2, m3, m4, m5, m6, m7, m8, m9, m10⟩ := mz_mok_ok hok
  have hPre : ∀ U : State, U.heap = H → s.WarmedH U.vm → xw_Pc D cy sK sV vF β ad (mz_fu M) (mz_r 8 0 0 :: as) ((mz_r 8 0 0 :: as).map (mz_v ad sK sV vF)).toArray U := fun U hU hW => ⟨rfl, by rw [hU]; exact hH.1, hH.2.1, mz_Cx_go hCx hW (by rw [hU]; exact hH.2.2.1.1) (fun q a1 a2 => by rw [hU]; exact hH.2.2.1.2.1 q a1 a2), xw_T_go hT hW (fun q a1 a2 => by rw [hU]; exact hH.2.2.1.2.1 q a1 a2)⟩
  have hpar : (parseMethodDescriptor (mz_y kc).desc).map (fun d => d.parameters.length) = some as.length := by
    rcases m9 with ⟨q, -⟩ | ⟨q1, q2⟩
    · exact absurd (mz_W_inj q hin) (by intro h; cases h)
    · rw [q2]
      congr 1
      omega
  have hrec : ∃ cellB : Cell, H[ad 0]? = some cellB ∧ cellB.vm.isStatics = false ∧ s.vm.findClass (mz_y kc).cls = some cellB.cls := by
    rw [hcls]
    exact va_recv (q := (mz_cn 8, mz_T 8, mz_nf 8)) hCx.1 hH.1 (mz_cl_at 8 (by omega)) (q0 := 0) (by rw [mz_ws_at _ _ _ (by show 0 < 167; omega), mz_en_o (t := 8) (n := 0) (by decide +kernel) (by omega)])
  have hcw := callB_of (R := R) (s := s) (args := args) (index := x) (own := (mz_y k).cls) (rm := xw_rm kc) (mc := 1) (ms := 6) as.length hts (mz_goodk m4) rfl rfl rfl (hts _ (mz_W_ok m5)) (hts _ (mz_W_ok hlk)) ⟨m2, m3, hpar⟩ ⟨by show mz_dep kc + 1 ≤ _; omega, by show 8 + (mz_L kc + 11) + 60 * mz_dep kc ≤ _; omega⟩
  have hsz : lsA.size = mz_L k := hH.2.2.2.2.2.2.1.1
  have hstk : (as.reverse ++ [mz_r 8 0 0]).map (mz_v ad sK sV vF) = (as.map (mz_v ad sK sV vF)).reverse ++ [.ref (ad 0)] := by
    rw [List.map_append, List.map_reverse]
    rfl
  rw [hstk]
  refine xw_after (cells := 167 - 167) (slots := 0 - 0) hH.2.2.1 (fun _ h => h) (vx_runV (C := (mz_y kc).cls) (b := ad 0) (As := as.map (mz_v ad sK sV vF)) (rest := []) ⟨hx, hb, hml, hown, hts⟩ (hM hH.2.2.2.1 ad) ⟨hcw, hts _ (mz_W_ok hin), hts _ (mz_W_ok hse)⟩ ⟨xw_blind, hrec, hPre⟩ rfl (by rw [List.length_map]) hsz rfl (by first | exact Nat.le_of_ble_eq_true rfl | simp [F0, JFrame.monitorRoom]) d0 ⟨by omega, by omega⟩) ?_ ?_
  · intro hn q ce ad' H1 locs1 q1 q2 q3 q4 q5 q6 q7 q8 q9 q10
    subst hn
    exact vx_out (fun x hx => (hE x hx).elim) hlk9 q8 q9 q10 (fun t ht _ => ⟨rfl, rfl, ad', fun q hq => (q1 q hq).trans (h1 q hq), by rw [ht]; exact q2, q3, q7.F ht, q4⟩) q7.2.2 (Nat.le_refl _) (Nat.le_refl _)
  · intro v hv ad' H1 locs1 q1 q2 q3 q4 q5 q6 q7 q8
    subst hv
    exact xw_ret hF0 d3 hrt (fun q hq => (q1 q hq).trans (h1 q hq)) q2 q3 q7 q4 q8 (Nat.le_refl _) (Nat.le_refl _)
end XwK
