/-! The law's own steps. -/
def lb (s : State) (qo : Nat) : Nat → Prop := fun q => s.heap.size ≤ q ∧ q ≠ qo
def lwD (pc : Nat) (ins : Instr) (len : Nat) : Bool := decide (decode code pc = .ok (ins, len))
theorem lwD_ok {pc : Nat} {ins : Instr} {len : Nat} (h : lwD pc ins len = true) : decode code pc = .ok (ins, len) := of_decide_eq_true h
def lc_k (k x y t o : Nat) : Bool := decide (k < 300) && mz_W y (.methodLink R_law x (mz_y k)) && mz_W (mz_wp k).2.1 (.instanceMethod (mz_y k)) && mz_W (mz_wp k).2.2.1 (.selects (mz_y k).cls (mz_y k) (mz_y k)) && decide (mz_dep k ≤ 30) && decide (mz_cn t = (mz_y k).cls) && decide (t < 10) && decide (mz_kd o = (t, 0)) && decide (o < 167)
section Law
variable {p : Program} {l : Launch} {e : Env} {s : State} {m : MethodId} {below : List Frame} {meth : Method} {c : Code} {Q : State → Prop} {b L : Nat} {xs : Nat → Int32}
variable {D : va_G} {cy : Nat → ClassId} {sK sV : Nat → Nat} {vF : Value} {cL : ClassId} {qo : Nat} {ad : Nat → Nat} {f : Nat → Int64} {M M1 : mz_M} {H : Heap} {locs : List Loc} {cells slots : Nat} {ls : Array Slot} {rest : List Value}
theorem lc_Cx {U : State} (h : mz_Cx D cy sK sV vF (fun q : Nat => s.heap.size ≤ q) s) (hW : s.WarmedH U.vm) (hS : va_S (fun q : Nat => s.heap.size ≤ q) s.heap U.heap locs) (hq : qo < U.heap.size) : mz_Cx D cy sK sV vF (lb s qo) U := by
  obtain ⟨h1, h2, h3, h4, h5, h6, h7, h8, h9, h10, h11⟩ := mz_Cx_go h hW hS.1 (fun a a1 a2 => hS.2.1 a a1 a2)
  have n : ∀ q, lb s qo q → s.heap.size ≤ q := fun q h => h.1
  exact ⟨h1, h2, h3, h4.narrow n, h5.narrow n, h6.narrow n, h7, fun q hq2 => ⟨h8 q hq2, by omega⟩, h9, h10, h11⟩
theorem lc_T {U : State} (h : xw_T (fun q : Nat => s.heap.size ≤ q) s) (hW : s.WarmedH U.vm) (hS : va_S (fun q : Nat => s.heap.size ≤ q) s.heap U.heap locs) : xw_T (lb s qo) U :=
  xw_T_narrow (xw_T_go h hW (fun a a1 a2 => hS.2.1 a a1 a2)) (fun q h => h.1)
/-- the law's world -/
def lc_W (s : State) (D : va_G) (cy : Nat → ClassId) (cL : ClassId) (qo : Nat) (ad : Nat → Nat) (f : Nat → Int64) (M : mz_M) (H : Heap) (locs : List Loc) : Prop :=
  va_P D vwCl (mz_ws ad cy (mz_fu M)) H ∧ va_D (lb s qo) (mz_ws ad cy (mz_fu M)) ∧ va_P D vwCl [(qo, .inl (cL, 1, .inr (.inl f)))] H ∧ va_S (fun q : Nat => s.heap.size ≤ q) s.heap H locs ∧ mz_wS (mz_fu M) ∧ s.heap.size ≤ qo
/-- what is fixed -/
def lc_X (s : State) (D : va_G) (cy : Nat → ClassId) (sK sV : Nat → Nat) (vF : Value) (cL : ClassId) : Prop := mz_Cx D cy sK sV vF (fun q : Nat => s.heap.size ≤ q) s ∧ xw_T (fun q : Nat => s.heap.size ≤ q) s ∧ va_K D vwCl [(cL, .long)] s
theorem lc_v0 {t o : Nat} (ht : t < 10) : mz_v ad sK sV vF (mz_r t 0 o) = .ref (ad o) := by
  show (if t = 90 then _ else if t = 91 then _ else if t = 92 then _ else _) = _
  rw [if_neg (by omega), if_neg (by omega), if_neg (by omega)]
theorem lc_wf0 {t o : Nat} (ht : t < 10) (hk : mz_kd o = (t, 0)) (ho : o < 167) : mz_wf (mz_fu M) (mz_r t 0 o) := by
  show (if t = 90 then _ else if t = 91 then _ else if t = 92 then _ else _)
  rw [if_neg (by omega), if_neg (by omega), if_neg (by omega)]
  exact ⟨ho, hk⟩
theorem lc_val (ys : List Int32) : (ys.map (fun y => mz_i y.toInt)).map (mz_v ad sK sV vF) = ys.map Value.int := by
  rw [List.map_map]
  exact List.map_congr_left fun y _ => by
    show Value.int (Int32.ofInt y.toInt) = _
    rw [Int32.ofInt_toInt]
theorem lc_wfs {t o : Nat} (ys : List Int32) (h0 : mz_wf (mz_fu M) (mz_r t 0 o)) : ∀ u ∈ mz_r t 0 o :: ys.map (fun y => mz_i y.toInt), mz_wf (mz_fu M) u := by
  intro u hu
  rcases List.mem_cons.mp hu with rfl | hu
  · exact h0
  · obtain ⟨y, -, rfl⟩ := List.mem_map.mp hu
    exact mz_wt y
theorem lc_keep {H1 : Heap} (hO : va_P D vwCl [(qo, .inl (cL, 1, .inr (.inl f)))] H) (e : H1[qo]? = H[qo]?) : va_P D vwCl [(qo, .inl (cL, 1, .inr (.inl f)))] H1 := by
  refine hO.kept (fun k x hx => ?_)
  cases k with
  | zero => cases hx; exact e
  | succ k => simp at hx
set_option maxRecDepth 20000 in
/-- a call of a method of the small machine -/
theorem lc_call {ys : List Int32} {k x y t o pc : Nat} {v : Int} (C0 : lw_At p s m meth c b L xs) (hX : lc_X s D cy sK sV vF cL) (hk : lc_k k x y t o = true) (hn : ys.length + 1 = mz_na k) (hsp : sp k (mz_r t 0 o :: ys.map (fun y => mz_i y.toInt)) M (some (mz_i v)) M1) (hd : lwD pc (.invokevirtual x) 3 = true) (hls : ls.size = 7) (hrest : (rest.map fun v => v.category).sum ≤ 8) (hW : lc_W s D cy cL qo ad f M H locs)
    (hc : cells ≤ 601024) (hs : slots ≤ 7293034)
    (kk : ∀ (ad' : Nat → Nat) (H1 : Heap) (locs1 : List Loc), (∀ q, q < 167 → ad' q = ad q) → lc_W s D cy cL qo ad' f M1 H1 locs1 → mz_w v → W p l e room_1 s m #[Value.ref b] below meth c H1 locs1 cells slots Q (F0 m (pc + 3) ls (.int (Int32.ofInt v) :: rest))) :
    W p l e room_1 s m #[Value.ref b] below meth c H locs cells slots Q (F0 m pc ls ((ys.map Value.int).reverse ++ .ref (ad o) :: rest)) := by
  obtain ⟨hx, hb, hr, hml, hown, hts, hXs, hbl, hlk, hgv⟩ := C0
  simp only [lc_k, Bool.and_eq_true, decide_eq_true_eq] at hk
  obtain ⟨⟨⟨⟨⟨⟨⟨⟨k1, k2⟩, k3⟩, k4⟩, k5⟩, k6⟩, k7⟩, k8⟩, k9⟩ := hk
  have hgw := lw_gw hts
  obtain ⟨m1, m2, m3, m4, m5, m6, m7, m8, m9, m10⟩ := mz_mok_ok (mz_okA k k1)
  obtain ⟨hP, hD, hO, hS, hwS, hqo⟩ := hW
  have hqlt : qo < H.size := vx_lt hO (k := 0) rfl
  have hMet := mz_contract (l := l) (D := D) (cy := cy) (sK := sK) (sV := sV) (vF := vF) (β := lb s qo) mz_okA k1 hsp hwS (lc_wfs ys (lc_wf0 k7 k8 k9)) (by rw [List.length_cons, List.length_map]; exact hn) ad
  have hPre : ∀ U : State, U.heap = H → s.WarmedH U.vm → mz_Pc D cy sK sV vF (lb s qo) ad (mz_fu M) (mz_r t 0 o :: ys.map (fun y => mz_i y.toInt)) (Value.ref (ad o) :: ys.map Value.int).toArray U := fun U hU hW2 => ⟨by rw [List.map_cons, lc_val, lc_v0 k7], by rw [hU]; exact hP, hD, lc_Cx hX.1 hW2 (by rw [hU]; exact hS) (by rw [hU]; exact hqlt)⟩
  have hrec : ∃ cellB : Cell, H[ad o]? = some cellB ∧ cellB.vm.isStatics = false ∧ s.vm.findClass (mz_y k).cls = some cellB.cls := by
    rw [← k6]
    exact va_recv (q := (mz_cn t, mz_T t, mz_nf t)) hX.1.1 hP (mz_cl_at t k7) (q0 := o) (by rw [mz_ws_at _ _ _ (by show o < 167; exact k9), mz_en_o (t := t) (n := 0) k8 k7])
  have hpar : (parseMethodDescriptor (mz_y k).desc).map (fun d => d.parameters.length) = some ys.length := by
    rcases m9 with ⟨q, -⟩ | ⟨q1, q2⟩
    · exact absurd (mz_W_inj q k3) (by intro h; cases h)
    · rw [q2]
      exact congrArg some (by omega)
  have hcw := callB_of (R := room_1) (s := s) (args := #[Value.ref b]) (index := x) (own := R_law) (rm := mz_rm9 k (mz_fu M) (mz_fu M1)) (mc := 0) (ms := 0) ys.length hgw (mz_goodk m4) rfl rfl rfl (hgw _ (mz_W_ok m5)) (hgw _ (mz_W_ok k2)) ⟨m2, m3, hpar⟩ ⟨by show mz_dep k + 1 ≤ 2048; omega, by show 8 + (mz_L k + 11) + 60 * mz_dep k ≤ 84000; omega⟩
  have hrun := va_runV (e := e) (meth := meth) (below := below) (H := H) (locs := locs) (cells := cells) (slots := slots) (C := (mz_y k).cls) (b := ad o) (As := ys.map Value.int) (rest := rest) (g := F0 m pc ls ((ys.map Value.int).reverse ++ .ref (ad o) :: rest)) ⟨hx, hb, hml, hown, hgw⟩ hMet ⟨hcw, hgw _ (mz_W_ok k3), hgw _ (mz_W_ok k4)⟩ ⟨mz_blind, hrec, hPre⟩ rfl (by rw [List.length_map]) hls rfl (lv_room hrest) (lwD_ok hd) ⟨hc, hs⟩
  intro T hT X
  obtain ⟨v', st₀, t', T', L', e0, X', hL, eh, -, ⟨ad', ha, hv, hP', hD', hFr, hwS', hwf'⟩, hgo⟩ := hrun T hT X
  have hv : v' = some (.int (Int32.ofInt v)) := Outcome.returned.inj hv
  subst hv
  have hO' := lc_keep hO (H1 := t'.heap) (by rw [hFr.2 qo (by rw [e0]; exact hqlt) (fun q => q.2 rfl), e0])
  have key := kk ad' t'.heap (locs ++ L') ha ⟨hP', hD', hO', ⟨?_, fun q a1 a2 => ?_, fun z hz => ?_⟩, hwS', hqo⟩ (hwf' _ rfl)
  · obtain ⟨t2, a1, b1⟩ := key T' eh X'
    exact ⟨t2, hgo t2 a1, b1⟩
  · exact Nat.le_trans hS.1 (by rw [← e0]; exact hFr.1)
  · rw [hFr.2 q (by rw [e0]; exact Nat.lt_of_lt_of_le a1 hS.1) (fun z => a2 z.1), e0]
    exact hS.2.1 q a1 a2
  · rcases List.mem_append.mp hz with hz | hz
    · exact hS.2.2 z hz
    · exact (hL z hz).1
/-! a number of the script -/
def lc_a (pc j : Nat) : Bool := lwD pc (.aload_n 0) 1 && lwD (pc + 1) (.iload 4) 2 && lwD (pc + 3) (.iconst j) 1 && lwD (pc + 4) .iadd 1 && lwD (pc + 5) .iaload 1
def lc_args : Nat → Nat → Nat → Bool
  | 0, _, _ => true
  | n + 1, pc, j => lc_a pc j && lc_args n (pc + 6) (j + 1)
def lc_y (xs : Nat → Int32) (x4 : Int32) (j : Nat) : Int32 := xs (x4 + Int32.ofInt (j : Int)).toNatClampNeg
def lc_ys (xs : Nat → Int32) (x4 : Int32) : Nat → Nat → List Int32
  | 0, _ => []
  | n + 1, j => lc_y xs x4 j :: lc_ys xs x4 n (j + 1)
theorem lc_ys_len {x4 : Int32} : ∀ (n j : Nat), (lc_ys xs x4 n j).length = n := by
  intro n
  induction n with
  | zero => intro _; rfl
  | succ n ih => intro j; show (lc_ys xs x4 n (j + 1)).length + 1 = _; rw [ih]
theorem lc_push {pc j : Nat} {x4 : Int32} (C0 : lw_At p s m meth c b L xs) (h0 : ls[0]? = some (.val (.ref b))) (h4 : ls[4]? = some (.val (.int x4))) (hc : lc_a pc j = true) (hin : vp_in (x4 + Int32.ofInt (j : Int)) L) (hS : va_S (fun q : Nat => s.heap.size ≤ q) s.heap H locs)
    (kk : W p l e room_1 s m #[Value.ref b] below meth c H locs cells slots Q (F0 m (pc + 6) ls (.int (lc_y xs x4 j) :: rest))) : W p l e room_1 s m #[Value.ref b] below meth c H locs cells slots Q (F0 m pc ls rest) := by
  obtain ⟨hx, hb, hr, hml, hown, hts, hXs, hbl, hlk, hgv⟩ := C0
  simp only [lc_a, Bool.and_eq_true] at hc
  obtain ⟨⟨⟨⟨d0, d1⟩, d3⟩, d4⟩, d5⟩ := hc
  refine lv_aload_n hx hb (lwD_ok d0) rfl h0 ?_
  refine lv_iload hx hb (lwD_ok d1) h4 ?_
  refine lv_iconst hx hb (lwD_ok d3) rfl ?_
  refine lv_iadd hx hb (lwD_ok d4) ?_
  exact va_sld hx hb hXs hbl (Nat.not_le.mpr hbl) hS hin (lwD_ok d5) kk
theorem lc_pushes {x4 : Int32} (C0 : lw_At p s m meth c b L xs) (h0 : ls[0]? = some (.val (.ref b))) (h4 : ls[4]? = some (.val (.int x4))) (hS : va_S (fun q : Nat => s.heap.size ≤ q) s.heap H locs) : ∀ (n pc j : Nat) (rest : List Value), lc_args n pc j = true → (∀ i, j ≤ i → i < j + n → vp_in (x4 + Int32.ofInt ((i : Nat) : Int)) L) →
    W p l e room_1 s m #[Value.ref b] below meth c H locs cells slots Q (F0 m (pc + 6 * n) ls (((lc_ys xs x4 n j).map Value.int).reverse ++ rest)) → W p l e room_1 s m #[Value.ref b] below meth c H locs cells slots Q (F0 m pc ls rest) := by
  intro n
  induction n with
  | zero => intro pc j rest _ _ k; exact k
  | succ n ih =>
    intro pc j rest hc hin k
    simp only [lc_args, Bool.and_eq_true] at hc
    refine lc_push C0 h0 h4 hc.1 (hin j (Nat.le_refl _) (by omega)) hS ?_
    refine ih (pc + 6) (j + 1) _ hc.2 (fun i h1 h2 => hin i (by omega) (by omega)) ?_
    rw [show pc + 6 + 6 * n = pc + 6 * (n + 1) by omega]
    have e : ((lc_ys xs x4 (n + 1) j).map Value.int).reverse ++ rest = ((lc_ys xs x4 n (j + 1)).map Value.int).reverse ++ (.int (lc_y xs x4 j) :: rest) := by
      show ((.int (lc_y xs x4 j) :: (lc_ys xs x4 n (j + 1)).map Value.int)).reverse ++ rest = _
      rw [List.reverse_cons, List.append_assoc]
      rfl
    rw [← e]
    exact k
/-- the joint behind the cases -/
def lc_J (p : Program) (l : Launch) (e : Env) (s : State) (m : MethodId) (below : List Frame) (meth : Method) (c : Code) (Q : State → Prop) (b : Nat) (D : va_G) (cy : Nat → ClassId) (cL : ClassId) (qo a0 a9 : Nat) (x4 : Int32) (cells slots : Nat) : Prop :=
  ∀ (ad : Nat → Nat) (f : Nat → Int64) (M : mz_M) (H : Heap) (locs : List Loc) (ls : Array Slot), ad 0 = a0 → ad 153 = a9 → lc_W s D cy cL qo ad f M H locs → Rel M → lv_has ls 7 [(0, .ref b), (1, .ref a0), (2, .ref a9), (3, .ref qo), (4, .int x4)] → W p l e room_1 s m #[Value.ref b] below meth c H locs (cells + 1) (slots + 6) Q (F0 m 2215 ls [])
def lc_c (n pc x8 x9 : Nat) (off : Int) : Bool := lwD pc (.aload_n 1) 1 && lc_args n (pc + 1) 1 && lwD (pc + 1 + 6 * n) (.invokevirtual x8) 3 && lwD (pc + 1 + 6 * n + 3) (.aload_n 2) 1 && lc_args n (pc + 1 + 6 * n + 3 + 1) 1 && lwD (pc + 1 + 6 * n + 3 + 1 + 6 * n) (.invokevirtual x9) 3 && lwD (pc + 1 + 6 * n + 3 + 1 + 6 * n + 3) (.if_icmp .eq off) 3 && decide (((pc + 1 + 6 * n + 3 + 1 + 6 * n + 3 : Nat) : Int) + off = ((2215 : Nat) : Int))
/-- a case without a throw -/
theorem lc_case {n pc k8 k9 x8 x9 y8 y9 a0 a9 : Nat} {off : Int} {x4 : Int32} (C0 : lw_At p s m meth c b L xs) (hX : lc_X s D cy sK sV vF cL) (hJ : lc_J p l e s m below meth c Q b D cy cL qo a0 a9 x4 cells slots) (hcc : cells ≤ 601000) (hss : slots ≤ 7293000)
    (hin : ∀ i, 1 ≤ i → i ≤ 3 → vp_in (x4 + Int32.ofInt ((i : Nat) : Int)) L) (h0 : ad 0 = a0) (h9 : ad 153 = a9) (hW : lc_W s D cy cL qo ad f M H locs) (hl : lv_has ls 7 [(0, .ref b), (1, .ref a0), (2, .ref a9), (3, .ref qo), (4, .int x4)])
    (hn3 : n ≤ 3) (hc : lc_c n pc x8 x9 off = true) (hk8 : lc_k k8 x8 y8 8 0 = true) (hk9 : lc_k k9 x9 y9 9 153 = true) (hn8 : n + 1 = mz_na k8) (hn9 : n + 1 = mz_na k9) (hb : both k8 k9 ((lc_ys xs x4 n 1).map (fun y => mz_i y.toInt)) M) :
    W p l e room_1 s m #[Value.ref b] below meth c H locs cells slots Q (F0 m pc ls []) := by
  obtain ⟨hx, hb9, hr, hml, hown, hts, hXs, hbl, hlk, hgv⟩ := id C0
  simp only [lc_c, Bool.and_eq_true, decide_eq_true_eq] at hc
  obtain ⟨⟨⟨⟨⟨⟨⟨d1, d2⟩, d3⟩, d4⟩, d5⟩, d6⟩, d7⟩, d8⟩ := hc
  obtain ⟨v, m1, m2, s1, s2, hR⟩ := hb
  refine lv_aload_n hx hb9 (lwD_ok d1) rfl (lv_at hl 1 rfl) ?_
  refine lc_pushes C0 (lv_at hl 0 rfl) (lv_at hl 4 rfl) hW.2.2.2.1 n _ 1 _ d2 (fun i h1 h2 => hin i h1 (by omega)) ?_
  rw [← h0]
  refine lc_call (o := 0) C0 hX hk8 (by rw [lc_ys_len]; exact hn8) s1 d3 hl.1 (by simp) hW (by omega) (by omega) (fun ad1 H1 locs1 e1 W1 _ => ?_)
  refine lv_aload_n hx hb9 (lwD_ok d4) rfl (lv_at hl 2 rfl) ?_
  refine lc_pushes C0 (lv_at hl 0 rfl) (lv_at hl 4 rfl) W1.2.2.2.1 n _ 1 _ d5 (fun i h1 h2 => hin i h1 (by omega)) ?_
  rw [show a9 = ad1 153 by rw [e1 153 (by omega)]; exact h9.symm]
  refine lc_call (o := 153) C0 hX hk9 (by rw [lc_ys_len]; exact hn9) s2 d6 hl.1 (by simp [Value.category]) W1 (by omega) (by omega) (fun ad2 H2 locs2 e2 W2 _ => ?_)
  refine lv_icmp_eq (tgt := 2215) hx hb9 (lwD_ok d7) d8 (fun _ => ?_) (fun q => absurd rfl q)
  refine W.widen (Nat.le_succ _) (Nat.le_add_right _ 6) ?_
  exact hJ ad2 f m2 H2 locs2 ls (by rw [e2 0 (by omega), e1 0 (by omega)]; exact h0) (by rw [e2 153 (by omega), e1 153 (by omega)]; exact h9) W2 hR hl
/-! the law's own methods that catch -/
def hx_Pc (D : va_G) (cy : Nat → ClassId) (sK sV : Nat → Nat) (vF : Value) (cL : ClassId) (β : Nat → Prop) (qo : Nat) (ad : Nat → Nat) (f : Nat → Int64) (M : mz_M) (vs : List Value) : Array Value → State → Prop :=
  va_Pc vs (fun U => va_P D vwCl (mz_ws ad cy (mz_fu M)) U.heap ∧ va_D β (mz_ws ad cy (mz_fu M)) ∧ va_P D vwCl [(qo, .inl (cL, 1, .inr (.inl f)))] U.heap ∧ mz_Cx D cy sK sV vF β U ∧ xw_T β U ∧ va_K D vwCl [(cL, .long)] U)
def hx_Q (D : va_G) (cy : Nat → ClassId) (cL : ClassId) (β : Nat → Prop) (qo : Nat) (ad : Nat → Nat) (M1 : mz_M) (res : Option Int) : Array Value → State → Outcome → State → Prop := fun _ st o t =>
  ∃ (ad' : Nat → Nat) (f' : Nat → Int64), (∀ q, q < 167 → ad' q = ad q) ∧ o = .returned (some (.int (Int32.ofInt (if res = none then 1 else 0)))) ∧ va_P D vwCl (mz_ws ad' cy (mz_fu M1)) t.heap ∧ va_D β (mz_ws ad' cy (mz_fu M1)) ∧ va_P D vwCl [(qo, .inl (cL, 1, .inr (.inl f')))] t.heap ∧ (∀ v, res = some v → f' 0 = (Int32.ofInt v).toInt64) ∧ va_F (fun q => β q ∨ q = qo) st t ∧ mz_wS (mz_fu M1)
def hx_rm (k : Nat) : Room := { frames := mz_dep k + 1, cells := 1, slots := 6, locals := 60 * mz_dep k + 60 }
theorem hx_blind {β : Nat → Prop} {vs : List Value} : FrameBlind (hx_Pc D cy sK sV vF cL β qo ad f M vs) := fun _ U _ _ q => ⟨q.1, q.2.1, q.2.2.1, q.2.2.2.1, mz_Cx_same (u := U) rfl rfl q.2.2.2.2.1, xw_T_same (u := U) rfl rfl q.2.2.2.2.2.1, va_K.moved (u := U) (Vm.Alike.refl U.vm) q.2.2.2.2.2.2⟩
theorem vd_cons {A β : Nat → Prop} {x : Nat × va_E} {ws : va_W} (h : va_D β ws) (hx : ¬ β x.1) (hA : ∀ q, β q → A q) (hAx : A x.1) : va_D A (x :: ws) := by
  refine ⟨fun i j p q hp hq e => ?_, fun k q hq => ?_⟩
  · cases i with
    | zero =>
      cases j with
      | zero => rfl
      | succ j =>
        cases hp
        have := h.2 j q hq
        rw [← e] at this
        exact absurd this hx
    | succ i =>
      cases j with
      | zero =>
        cases hq
        have := h.2 i p hp
        rw [e] at this
        exact absurd this hx
      | succ j => rw [h.1 i j p q hp hq e]
  · cases k with
    | zero => cases hq; exact hAx
    | succ k => exact hA _ (h.2 k q hq)
theorem vp_cons {x : Nat × va_E} {ws : va_W} (h : va_P D vwCl ws H) (hx : va_P D vwCl [x] H) : va_P D vwCl (x :: ws) H := by
  intro k q hq
  cases k with
  | zero => exact hx 0 q hq
  | succ k => exact h k q hq
theorem vp_tail {x : Nat × va_E} {ws : va_W} (h : va_P D vwCl (x :: ws) H) : va_P D vwCl ws H ∧ va_P D vwCl [x] H :=
  ⟨fun k q hq => h (k + 1) q hq, fun k q hq => by
    cases k with
    | zero => exact h 0 q hq
    | succ k => simp at hq⟩
/-- what is looked at of such a method: the class's method, its words -/
def hx_k (k xk pk ct pt pcast : Nat) (E0 : String) : Bool := mz_ok k && mz_W pk (.methodLink R_law xk (mz_y k)) && mz_W (mz_wp k).2.1 (.instanceMethod (mz_y k)) && mz_W (mz_wp k).2.2.1 (.selects (mz_y k).cls (mz_y k) (mz_y k)) && decide ((mz_y k).cls = RX8) && mz_W pt (.classLink R_law ct E0) && decide (ct ≠ 0) && decide (xw_nw[pcast]? = some (.castable E0 E0)) && decide (mz_na k ≤ 3)
end Law
