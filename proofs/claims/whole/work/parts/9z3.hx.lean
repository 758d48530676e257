section Hx
variable {p : Program} {l : Launch} {e : Env} {s : State} {m : MethodId} {below : List Frame} {meth : Method} {c : Code} {Q : State → Prop} {b L : Nat} {xs : Nat → Int32}
variable {D : va_G} {cy : Nat → ClassId} {sK sV : Nat → Nat} {vF : Value} {cL : ClassId} {qo : Nat} {ad : Nat → Nat} {f : Nat → Int64} {M M1 : mz_M} {H : Heap} {locs : List Loc} {cells slots : Nat} {ls : Array Slot} {rest : List Value}
theorem hx_good {y : MethodName} {xh pm ps pi pc9 : Nat} {cw : Cond} (h1 : mz_W pm (.methodLink R_law xh y) = true) (h2 : mz_W ps (.static y) = true) (h3 : mz_W pi (.initialized y.cls) = true) (h4 : mz_W pc9 cw = true) : GoodIn mz_gw (va_wsS R_law xh y (cw :: mz_gw)) := by
  intro w hw
  have hm : w ∈ mz_gw := by
    simp only [va_wsS, List.mem_append, List.mem_cons, List.not_mem_nil, or_false] at hw
    rcases hw with (rfl | rfl | rfl) | rfl | hw
    · exact mz_W_ok h1
    · exact mz_W_ok h2
    · exact mz_W_ok h3
    · exact mz_W_ok h4
    · exact hw
  exact ⟨hm, good_of_word (List.mem_filter.mp hm).2⟩
theorem lg_cmp_self (x : Int64) : lg_cmp x x = 0 := by
  unfold lg_cmp
  rw [if_neg (Int64.lt_irrefl), if_pos rfl]
def hx_d1 (cc : ByteArray) (xk : Nat) : Bool := decide (decode cc 0 = .ok (.aload_n 2, 1)) && decide (decode cc 1 = .ok (.iconst 0, 1)) && decide (decode cc 2 = .ok (.aload_n 0, 1)) && decide (decode cc 3 = .ok (.iload_n 1, 1)) && decide (decode cc 4 = .ok (.invokevirtual xk, 3)) && decide (decode cc 7 = .ok (.i2l, 1)) && decide (decode cc 8 = .ok (.lastore, 1)) && decide (decode cc 9 = .ok (.goto 6, 3)) && decide (decode cc 12 = .ok (.astore_n 3, 1)) && decide (decode cc 13 = .ok (.iconst 1, 1)) && decide (decode cc 14 = .ok (.ireturn, 1)) && decide (decode cc 15 = .ok (.iconst 0, 1)) && decide (decode cc 16 = .ok (.ireturn, 1))
theorem hx_met1 {y : MethodName} {cc : ByteArray} {k xk ct pk pt pcast pc9 : Nat} {E0 : String} {β : Nat → Prop} {res : Option Int} {x : Int32} (hcls : y.cls = R_law) (hword : mz_W pc9 (.codeWith y cc 4 (some .int) [(0, 9, 12, ct)]) = true) (hd : hx_d1 cc xk = true) (hk : hx_k k xk pk ct pt pcast E0 = true) (hna : mz_na k = 2) (hM : xw_Met l D cy sK sV vF β k E0 ad [mz_r 8 0 0, mz_i x.toInt] M res M1) (hq : ¬ β qo) :
    Met l y (.codeWith y cc 4 (some .int) [(0, 9, 12, ct)] :: mz_gw) (hx_rm k) (hx_Pc D cy sK sV vF cL β qo ad f M [.ref (ad 0), .int x, .ref qo]) (hx_Q D cy cL β qo ad M1 res) 1 6 (fun q => β q ∨ q = qo) := by
  simp only [hx_k, Bool.and_eq_true, decide_eq_true_eq] at hk
  obtain ⟨⟨⟨⟨⟨⟨⟨⟨q1, q2⟩, q3⟩, q4⟩, q5⟩, q6⟩, q7⟩, q8⟩, q9⟩ := hk
  simp only [hx_d1, Bool.and_eq_true, decide_eq_true_eq] at hd
  obtain ⟨⟨⟨⟨⟨⟨⟨⟨⟨⟨⟨⟨d0, d1⟩, d2⟩, d3⟩, d4⟩, d5⟩, d6⟩, d7⟩, d8⟩, d9⟩, d10⟩, d11⟩, d12⟩ := hd
  obtain ⟨m1, m2, m3, m4, m5, m6, m7, m8, m9, m10⟩ := mz_mok_ok q1
  refine va_MetW (cc := cc) (maxL := 4) (ret := some .int) (hh := [(0, 9, 12, ct)]) (by rw [hcls]; decide +kernel) rfl ?_
  intro p e s m args below meth c s₁ B hml hv
  obtain ⟨rfl, hP, hD, hO, hCx, hT, hKL⟩ := hv
  have hts0 := atoms_spec (ws := .codeWith y cc 4 (some .int) [(0, 9, 12, ct)] :: mz_gw) B.pre
  have hts : ∀ w ∈ mz_gw, w.before _ s = true := fun w hw => hts0 w (List.mem_cons_of_mem _ hw)
  have hown : s.vm.findClass R_law = some m.cls := by rw [← hcls]; exact findClass_of_methodNamed B.named
  have htab : c.exceptionTable.toList = tableOf [(0, 9, 12, ct)] := vx_table (x := y) B (hts0 _ List.mem_cons_self)
  have hx := B.exec
  have hb := B.bytes
  have hr := B.returns
  have hlk := B.notSynchronized
  have hqlt : qo < s.heap.size := vx_lt hO (k := 0) rfl
  have hl := lv_entry ([.ref (ad 0), .int x, .ref qo] : List Value) (n := 4) (Nat.le_of_ble_eq_true rfl)
  rw [lg_entry_eq]
  generalize (lg_sl ([.ref (ad 0), .int x, .ref qo] : List Value) ++ List.replicate (4 - (lg_sl ([.ref (ad 0), .int x, .ref qo] : List Value)).length) Slot.unset).toArray = lsA at hl ⊢
  have hl : lv_has lsA 4 [(0, .ref (ad 0)), (1, .int x), (2, .ref qo)] := hl
  refine lv_aload_n hx hb d0 rfl (lv_at hl 2 rfl) ?_
  refine lv_iconst hx hb d1 rfl ?_
  refine lv_aload_n hx hb d2 rfl (lv_at hl 0 rfl) ?_
  refine lv_iload_n hx hb d3 rfl (lv_at hl 1 rfl) ?_
  have hPre : ∀ U : State, U.heap = s.heap → s.WarmedH U.vm → xw_Pc D cy sK sV vF β ad (mz_fu M) [mz_r 8 0 0, mz_i x.toInt] (Value.ref (ad 0) :: ([.int x] : List Value)).toArray U := fun U hU hW => ⟨by
    have := lc_val (ad := ad) (sK := sK) (sV := sV) (vF := vF) [x]
    rw [List.map_cons, lc_v0 (by omega)]
    show _ = (Value.ref (ad 0) :: ([x].map (fun y => mz_i y.toInt)).map (mz_v ad sK sV vF)).toArray
    rw [this]
    rfl, by rw [hU]; exact hP, hD, mz_Cx_go hCx hW (by rw [hU]; exact Nat.le_refl _) (fun a _ _ => by rw [hU]), xw_T_go hT hW (fun a _ _ => by rw [hU])⟩
  have hrec : ∃ cellB : Cell, s.heap[ad 0]? = some cellB ∧ cellB.vm.isStatics = false ∧ s.vm.findClass (mz_y k).cls = some cellB.cls := by
    rw [q5]
    exact va_recv (q := (mz_cn 8, mz_T 8, mz_nf 8)) hCx.1 hP (mz_cl_at 8 (by omega)) (q0 := 0) (by rw [mz_ws_at _ _ _ (by show 0 < 167; omega), mz_en_o (t := 8) (n := 0) (by decide +kernel) (by omega)])
  have hpar : (parseMethodDescriptor (mz_y k).desc).map (fun d => d.parameters.length) = some 1 := by
    rcases m9 with ⟨q, -⟩ | ⟨q1, q2⟩
    · exact absurd (mz_W_inj q q3) (by intro h; cases h)
    · rw [q2, hna]
  have hcw := callB_of (R := hx_rm k) (s := s) (index := xk) (own := R_law) (rm := xw_rm k) (mc := 1) (ms := 6) 1 hts (mz_goodk m4) rfl rfl rfl (hts _ (mz_W_ok m5)) (hts _ (mz_W_ok q2)) ⟨m2, m3, hpar⟩ ⟨by show mz_dep k + 1 ≤ mz_dep k + 1; omega, by show 8 + (mz_L k + 11) + 60 * mz_dep k ≤ 60 * mz_dep k + 60; omega⟩
  refine xw_after (A := fun q => β q ∨ q = qo) (cells := 0) (slots := 0) va_S.rf (fun _ h => Or.inl h) (vx_runV (C := (mz_y k).cls) (b := ad 0) (As := [.int x]) (rest := [.int (Int32.ofInt 0), .ref qo]) ⟨hx, hb, hml, hown, hts⟩ hM ⟨hcw, hts _ (mz_W_ok q3), hts _ (mz_W_ok q4)⟩ ⟨xw_blind, hrec, hPre⟩ rfl rfl hl.1 rfl (lv_room (by simp [Value.category])) d4 ⟨by show 0 + 1 ≤ 1; omega, by show 0 + 6 ≤ 6; omega⟩) ?_ ?_
  · intro hn q ce ad' H1 locs1 w1 w2 w3 w4 w5 w6 w7 w8 w9 w10
    subst hn
    have hcm := List.mem_of_getElem? q8
    refine vx_catch hown [] ⟨0, 9, 12, ct⟩ [] (by rw [htab]; rfl) (fun z hz => by cases hz) rfl q7 (hts _ (mz_W_ok q6)) (va_Nw.use (xw_nw_on _ hcm) (hT.1 _ hcm)) w8 w9 w10 ?_
    refine lv_astore_n hx hb d8 rfl hl (by decide) rfl (fun ls2 hl2 => ?_)
    refine lv_iconst hx hb d9 rfl ?_
    exact W.iret (hlocks := hlk) hx hb hr (fun t ht _ => ⟨ad', f, w1, rfl, by rw [ht]; exact w2, w3, by rw [ht]; exact lc_keep hO (w6 qo hqlt hq), fun v hv => (by cases hv), w7.F ht, w4⟩) w7.2.2 d10
  · intro v hv ad' H1 locs1 w1 w2 w3 w4 w5 w6 w7 w8
    subst hv
    refine lv_i2l hx hb d5 rfl ?_
    refine va_last hx hb hKL (vp_cons w2 (lc_keep hO (w6 qo hqlt hq))) (vd_cons (A := fun q => β q ∨ q = qo) w3 hq (fun _ h => Or.inl h) (Or.inr rfl)) w7 0 0 rfl rfl (by unfold vp_in; decide) d6 (fun H2 locs2 z1 z2 z3 => ?_)
    obtain ⟨y1, y2⟩ := vp_tail z1
    refine lv_goto (tgt := 15) hx hb d7 (by decide) ?_
    refine lv_iconst hx hb d11 rfl ?_
    exact W.iret (hlocks := hlk) hx hb hr (fun t ht _ => ⟨ad', _, w1, rfl, by rw [ht]; exact y1, w3, by rw [ht]; exact y2, fun w hw => by cases hw; rfl, z3.F ht, w4⟩) z3.2.2 d12
/-- the call of it, in the law -/
theorem lc_help1 {y : MethodName} {cc : ByteArray} {k xk xh ct pk pt pcast pc9 pm ps pi pc : Nat} {E0 : String} {res : Option Int} {x : Int32} (C0 : lw_At p s m meth c b L xs) (hX : lc_X s D cy sK sV vF cL) (hcls : y.cls = R_law) (hword : mz_W pc9 (.codeWith y cc 4 (some .int) [(0, 9, 12, ct)]) = true) (hd : hx_d1 cc xk = true) (hk : hx_k k xk pk ct pt pcast E0 = true) (hna : mz_na k = 2) (hdep : mz_dep k ≤ 30)
    (h1 : mz_W pm (.methodLink R_law xh y) = true) (h2 : mz_W ps (.static y) = true) (h3 : mz_W pi (.initialized y.cls) = true) (hpar : (parseMethodDescriptor y.desc).map (fun d => d.parameters.length) = some 3) (hM : xw_Met l D cy sK sV vF (lb s qo) k E0 ad [mz_r 8 0 0, mz_i x.toInt] M res M1) (hdg : lwD pc (.invokestatic xh) 3 = true) (hls : ls.size = 7) (hW : lc_W s D cy cL qo ad f M H locs) (hc : cells + 1 ≤ 601024) (hs : slots + 6 ≤ 7293034)
    (kk : ∀ (ad' : Nat → Nat) (f' : Nat → Int64) (H1 : Heap) (locs1 : List Loc), (∀ q, q < 167 → ad' q = ad q) → lc_W s D cy cL qo ad' f' M1 H1 locs1 → (∀ v, res = some v → f' 0 = (Int32.ofInt v).toInt64) → W p l e room_1 s m #[Value.ref b] below meth c H1 locs1 (cells + 1) (slots + 6) Q (F0 m (pc + 3) ls [.int (Int32.ofInt (if res = none then 1 else 0))])) :
    W p l e room_1 s m #[Value.ref b] below meth c H locs cells slots Q (F0 m pc ls [.ref qo, .int x, .ref (ad 0)]) := by
  obtain ⟨hx, hb, hr, hml, hown, hts, hXs, hbl, hlk, hgv⟩ := C0
  have hgw := lw_gw hts
  obtain ⟨hP, hD, hO, hS, hwS, hqo⟩ := hW
  have hqlt : qo < H.size := vx_lt hO (k := 0) rfl
  have hMet := hx_met1 (cL := cL) (qo := qo) (f := f) hcls hword hd hk hna hM (fun q => q.2 rfl)
  have hPre : ∀ U : State, U.heap = H → s.WarmedH U.vm → hx_Pc D cy sK sV vF cL (lb s qo) qo ad f M [.ref (ad 0), .int x, .ref qo] ([.ref (ad 0), .int x, .ref qo] : List Value).toArray U := fun U hU hW2 => ⟨rfl, by rw [hU]; exact hP, hD, by rw [hU]; exact hO, lc_Cx hX.1 hW2 (by rw [hU]; exact hS) (by rw [hU]; exact hqlt), lc_T hX.2.1 hW2 (by rw [hU]; exact hS), va_K.moved hW2.alike hX.2.2⟩
  have hcw := vx_cwSW (R := room_1) (s := s) (args := #[Value.ref b]) (own := R_law) (index := xh) (rm := hx_rm k) (mc := 1) (ms := 6) (Ts := mz_gw) 3 hgw (hx_good h1 h2 h3 hword) rfl rfl rfl ⟨by rw [hcls]; decide +kernel, by rw [hcls]; decide +kernel, hpar⟩ ⟨by show mz_dep k + 1 + 1 ≤ 2048; omega, by show 8 + (4 + 11) + (60 * mz_dep k + 60) ≤ 84000; omega⟩
  have hrun := vx_runSW (e := e) (meth := meth) (below := below) (H := H) (locs := locs) (cells := cells) (slots := slots) (As := [.ref (ad 0), .int x, .ref qo]) (rest := []) (g := F0 m pc ls [.ref qo, .int x, .ref (ad 0)]) ⟨hx, hb, hml, hown, hgw⟩ hMet hcw ⟨hx_blind, hPre⟩ rfl rfl hls rfl (lv_room (by decide)) (lwD_ok hdg) ⟨hc, hs⟩
  intro T hT X
  obtain ⟨v', st₀, t', T', L', e0, X', hL, eh, -, ⟨ad', f', ha, hv, hP', hD', hO', hf', hFr, hwS'⟩, hgo⟩ := hrun T hT X
  have hv := Outcome.returned.inj hv
  subst hv
  have key := kk ad' f' t'.heap (locs ++ L') ha ⟨hP', hD', hO', ⟨?_, fun q a1 a2 => ?_, fun z hz => ?_⟩, hwS', hqo⟩ hf'
  · obtain ⟨t2, a1, b1⟩ := key T' eh X'
    exact ⟨t2, hgo t2 a1, b1⟩
  · exact Nat.le_trans hS.1 (by rw [← e0]; exact hFr.1)
  · rw [hFr.2 q (by rw [e0]; exact Nat.lt_of_lt_of_le a1 hS.1) (fun z => z.elim (fun z => a2 z.1) (fun z => a2 (by rw [z]; exact hqo))), e0]
    exact hS.2.1 q a1 a2
  · rcases List.mem_append.mp hz with hz | hz
    · exact hS.2.2 z hz
    · rcases hL z hz with z | z
      · exact z.1
      · rw [z]; exact hqo
def lc_t1 (pc xh x9 xt : Nat) (off : Int) : Bool := lwD pc (.aload_n 1) 1 && lc_args 1 (pc + 1) 1 && lwD (pc + 1 + 6) (.aload_n 3) 1 && lwD (pc + 1 + 6 + 1) (.invokestatic xh) 3 && lwD (pc + 1 + 6 + 1 + 3) (.istore 5) 2 && lwD (pc + 1 + 6 + 1 + 3 + 2) (.aload_n 2) 1 && lc_args 1 (pc + 1 + 6 + 1 + 3 + 2 + 1) 1 && lwD (pc + 1 + 6 + 1 + 3 + 2 + 1 + 6) (.invokevirtual x9) 3 && lwD ((pc + 1 + 6 + 1 + 3 + 2 + 1 + 6) + 3) (.istore 6) 2 && lwD ((pc + 1 + 6 + 1 + 3 + 2 + 1 + 6) + 3 + 2) (.aload_n 2) 1 && lwD ((pc + 1 + 6 + 1 + 3 + 2 + 1 + 6) + 3 + 2 + 1) (.invokevirtual xt) 3 && lwD ((pc + 1 + 6 + 1 + 3 + 2 + 1 + 6) + 3 + 2 + 1 + 3) (.iload 5) 2 && lwD ((pc + 1 + 6 + 1 + 3 + 2 + 1 + 6) + 3 + 2 + 1 + 3 + 2) (.if_icmp .eq 5) 3 && lwD ((pc + 1 + 6 + 1 + 3 + 2 + 1 + 6) + 16) (.iload 5) 2 && lwD ((pc + 1 + 6 + 1 + 3 + 2 + 1 + 6) + 16 + 2) (.ifCond .ne 15) 3 && lwD ((pc + 1 + 6 + 1 + 3 + 2 + 1 + 6) + 16 + 2 + 3) (.aload_n 3) 1 && lwD ((pc + 1 + 6 + 1 + 3 + 2 + 1 + 6) + 16 + 2 + 3 + 1) (.iconst 0) 1 && lwD ((pc + 1 + 6 + 1 + 3 + 2 + 1 + 6) + 16 + 2 + 3 + 1 + 1) .laload 1 && lwD ((pc + 1 + 6 + 1 + 3 + 2 + 1 + 6) + 16 + 2 + 3 + 1 + 1 + 1) (.iload 6) 2 && lwD ((pc + 1 + 6 + 1 + 3 + 2 + 1 + 6) + 16 + 2 + 3 + 1 + 1 + 1 + 2) .i2l 1 && lwD ((pc + 1 + 6 + 1 + 3 + 2 + 1 + 6) + 16 + 2 + 3 + 1 + 1 + 1 + 2 + 1) .lcmp 1 && lwD ((pc + 1 + 6 + 1 + 3 + 2 + 1 + 6) + 16 + 2 + 3 + 1 + 1 + 1 + 2 + 1 + 1) (.ifCond .eq 5) 3 && lwD ((pc + 1 + 6 + 1 + 3 + 2 + 1 + 6) + 33) (.goto off) 3 && decide ((((pc + 1 + 6 + 1 + 3 + 2 + 1 + 6) + 33 : Nat) : Int) + off = ((2215 : Nat) : Int))
/-- a case with a throw -/
theorem lc_thr1 {y : MethodName} {cc : ByteArray} {k k9 xk xh x9 xt y9 yt ct pk pt pcast pc9 pm ps pi pc a0 a9 : Nat} {E0 : String} {off : Int} {x4 : Int32} (hl0 : l.stackTraces = false) (C0 : lw_At p s m meth c b L xs) (hX : lc_X s D cy sK sV vF cL) (hJ : lc_J p l e s m below meth c Q b D cy cL qo a0 a9 x4 cells slots) (hcc : cells ≤ 601000) (hss : slots ≤ 7293000)
    (hin : ∀ i, 1 ≤ i → i ≤ 3 → vp_in (x4 + Int32.ofInt ((i : Nat) : Int)) L) (h0 : ad 0 = a0) (h9 : ad 153 = a9) (hW : lc_W s D cy cL qo ad f M H locs) (hl : lv_has ls 7 [(0, .ref b), (1, .ref a0), (2, .ref a9), (3, .ref qo), (4, .int x4)])
    (hcls : y.cls = R_law) (hword : mz_W pc9 (.codeWith y cc 4 (some .int) [(0, 9, 12, ct)]) = true) (hd : hx_d1 cc xk = true) (hk : hx_k k xk pk ct pt pcast E0 = true) (hna : mz_na k = 2) (hdep : mz_dep k ≤ 30)
    (h1 : mz_W pm (.methodLink R_law xh y) = true) (h2 : mz_W ps (.static y) = true) (h3 : mz_W pi (.initialized y.cls) = true) (hpar : (parseMethodDescriptor y.desc).map (fun d => d.parameters.length) = some 3)
    (hc : lc_t1 pc xh x9 xt off = true) (hk9 : lc_k k9 x9 y9 9 153 = true) (hkt : lc_k 49 xt yt 9 153 = true) (hn9 : mz_na k9 = 2) (hb : botX k E0 k9 ([lc_y xs x4 1].map (fun y => mz_i y.toInt)) M) :
    W p l e room_1 s m #[Value.ref b] below meth c H locs cells slots Q (F0 m pc ls []) := by
  obtain ⟨hx, hb9, hr, hml, hown, hts, hXs, hbl, hlk, hgv⟩ := id C0
  simp only [lc_t1, Bool.and_eq_true, decide_eq_true_eq] at hc
  obtain ⟨⟨⟨⟨⟨⟨⟨⟨⟨⟨⟨⟨⟨⟨⟨⟨⟨⟨⟨⟨⟨⟨⟨d1, d2⟩, d3⟩, d4⟩, d5⟩, d6⟩, d7⟩, d8⟩, d9⟩, d10⟩, d11⟩, d12⟩, d13⟩, d14⟩, d15⟩, d16⟩, d17⟩, d18⟩, d19⟩, d20⟩, d21⟩, d22⟩, d23⟩, d24⟩ := hc
  obtain ⟨res, m1, w, m2, s1, s2, hth, hres, hR⟩ := hb
  refine lv_aload_n hx hb9 (lwD_ok d1) rfl (lv_at hl 1 rfl) ?_
  refine lc_pushes C0 (lv_at hl 0 rfl) (lv_at hl 4 rfl) hW.2.2.2.1 1 _ 1 _ d2 (fun i h1 h2 => hin i h1 (by omega)) ?_
  refine lv_aload_n hx hb9 (lwD_ok d3) rfl (lv_at hl 3 rfl) ?_
  rw [← h0]
  refine lc_help1 C0 hX hcls hword hd hk hna hdep h1 h2 h3 hpar (s1 l D cy sK sV vF (lb s qo) ad hl0) d4 hl.1 hW (by omega) (by omega) (fun ad1 f1 H1 locs1 e1 W1 hf1 => ?_)
  refine lv_istore (lv' := [(5, .int (Int32.ofInt (if res = none then 1 else 0))), (0, .ref b), (1, .ref a0), (2, .ref a9), (3, .ref qo), (4, .int x4)]) hx hb9 (lwD_ok d5) hl (by decide) rfl (fun ls1 hl1 => ?_)
  refine lv_aload_n hx hb9 (lwD_ok d6) rfl (lv_at hl1 3 rfl) ?_
  refine lc_pushes C0 (lv_at hl1 1 rfl) (lv_at hl1 5 rfl) W1.2.2.2.1 1 _ 1 _ d7 (fun i h1 h2 => hin i h1 (by omega)) ?_
  have e9 : a9 = ad1 153 := by rw [e1 153 (by omega)]; exact h9.symm
  rw [e9]
  refine lc_call (ys := [lc_y xs x4 1]) (o := 153) C0 hX hk9 (by rw [hn9]; rfl) s2 d8 hl1.1 (by simp) W1 (by omega) (by omega) (fun ad2 H2 locs2 e2 W2 _ => ?_)
  refine lv_istore (lv' := [(6, .int (Int32.ofInt w)), (5, .int (Int32.ofInt (if res = none then 1 else 0))), (0, .ref b), (1, .ref a0), (2, .ref a9), (3, .ref qo), (4, .int x4)]) hx hb9 (lwD_ok d9) hl1 (by decide) rfl (fun ls2 hl2 => ?_)
  refine lv_aload_n hx hb9 (lwD_ok d10) rfl (lv_at hl2 4 rfl) ?_
  have e99 : a9 = ad2 153 := by rw [e2 153 (by omega)]; exact e9
  rw [e99]
  refine lc_call (ys := []) (o := 153) C0 hX hkt rfl (sp_X9_thrown m2) d11 hl2.1 (by simp) W2 (by omega) (by omega) (fun ad3 H3 locs3 e3 W3 _ => ?_)
  refine lv_iload hx hb9 (lwD_ok d12) (lv_at hl2 1 rfl) ?_
  refine lv_icmp_eq (tgt := (pc + 1 + 6 + 1 + 3 + 2 + 1 + 6) + 16) hx hb9 (lwD_ok d13) (by omega) (fun _ => ?_) (fun q => absurd (by rw [hth]) q)
  have J := hJ ad3 f1 m2 H3 locs3 ls2 (by rw [e3 0 (by omega), e2 0 (by omega), e1 0 (by omega)]; exact h0) (by rw [e3 153 (by omega)]; exact e99.symm) W3 hR (lv_sub hl2 [2, 3, 4, 5, 6] rfl)
  have J2 : W p l e room_1 s m #[Value.ref b] below meth c H3 locs3 (cells + 1) (slots + 6) Q (F0 m ((pc + 1 + 6 + 1 + 3 + 2 + 1 + 6) + 33) ls2 []) := lv_goto (tgt := 2215) hx hb9 (lwD_ok d23) d24 J
  refine lv_iload hx hb9 (lwD_ok d14) (lv_at hl2 1 rfl) ?_
  refine lv_if_ne (tgt := (pc + 1 + 6 + 1 + 3 + 2 + 1 + 6) + 33) hx hb9 (lwD_ok d15) (by omega) (fun _ => J2) (fun q => ?_)
  cases res with
  | none => exact absurd q (by decide)
  | some v =>
    refine lv_aload_n hx hb9 (lwD_ok d16) rfl (lv_at hl2 5 rfl) ?_
    refine lv_iconst hx hb9 (lwD_ok d17) rfl ?_
    refine va_lald hx hb9 hX.2.2 W3.2.2.1 0 0 rfl rfl (by unfold vp_in; decide) (lwD_ok d18) ?_
    refine lv_iload hx hb9 (lwD_ok d19) (lv_at hl2 0 rfl) ?_
    refine lv_i2l hx hb9 (lwD_ok d20) rfl ?_
    refine W.lcmp hx hb9 (lwD_ok d21) ?_
    refine lv_if_eq (tgt := (pc + 1 + 6 + 1 + 3 + 2 + 1 + 6) + 33) hx hb9 (lwD_ok d22) (by omega) (fun _ => J2) (fun q => ?_)
    refine absurd ?_ q
    rw [show f1 (Int32.ofInt 0).toNatClampNeg = (Int32.ofInt v).toInt64 from hf1 v rfl, hres v rfl]
    exact lg_cmp_self _
def hx_d2 (cc : ByteArray) (xk : Nat) : Bool := decide (decode cc 0 = .ok (.aload_n 3, 1)) && decide (decode cc 1 = .ok (.iconst 0, 1)) && decide (decode cc 2 = .ok (.aload_n 0, 1)) && decide (decode cc 3 = .ok (.iload_n 1, 1)) && decide (decode cc 4 = .ok (.iload_n 2, 1)) && decide (decode cc 5 = .ok (.invokevirtual xk, 3)) && decide (decode cc 8 = .ok (.i2l, 1)) && decide (decode cc 9 = .ok (.lastore, 1)) && decide (decode cc 10 = .ok (.goto 7, 3)) && decide (decode cc 13 = .ok (.astore 4, 2)) && decide (decode cc 15 = .ok (.iconst 1, 1)) && decide (decode cc 16 = .ok (.ireturn, 1)) && decide (decode cc 17 = .ok (.iconst 0, 1)) && decide (decode cc 18 = .ok (.ireturn, 1))
theorem hx_met2 {y : MethodName} {cc : ByteArray} {k xk ct pk pt pcast pc9 : Nat} {E0 : String} {β : Nat → Prop} {res : Option Int} {x y9 : Int32} (hcls : y.cls = R_law) (hword : mz_W pc9 (.codeWith y cc 5 (some .int) [(0, 10, 13, ct)]) = true) (hd : hx_d2 cc xk = true) (hk : hx_k k xk pk ct pt pcast E0 = true) (hna : mz_na k = 3) (hM : xw_Met l D cy sK sV vF β k E0 ad [mz_r 8 0 0, mz_i x.toInt, mz_i y9.toInt] M res M1) (hq : ¬ β qo) :
    Met l y (.codeWith y cc 5 (some .int) [(0, 10, 13, ct)] :: mz_gw) (hx_rm k) (hx_Pc D cy sK sV vF cL β qo ad f M [.ref (ad 0), .int x, .int y9, .ref qo]) (hx_Q D cy cL β qo ad M1 res) 1 6 (fun q => β q ∨ q = qo) := by
  simp only [hx_k, Bool.and_eq_true, decide_eq_true_eq] at hk
  obtain ⟨⟨⟨⟨⟨⟨⟨⟨q1, q2⟩, q3⟩, q4⟩, q5⟩, q6⟩, q7⟩, q8⟩, q9⟩ := hk
  simp only [hx_d2, Bool.and_eq_true, decide_eq_true_eq] at hd
  obtain ⟨⟨⟨⟨⟨⟨⟨⟨⟨⟨⟨⟨⟨d0, d1⟩, d2⟩, d3⟩, d4⟩, d5⟩, d6⟩, d7⟩, d8⟩, d9⟩, d10⟩, d11⟩, d12⟩, d13⟩ := hd
  obtain ⟨m1, m2, m3, m4, m5, m6, m7, m8, m9, m10⟩ := mz_mok_ok q1
  refine va_MetW (cc := cc) (maxL := 5) (ret := some .int) (hh := [(0, 10, 13, ct)]) (by rw [hcls]; decide +kernel) rfl ?_
  intro p e s m args below meth c s₁ B hml hv
  obtain ⟨rfl, hP, hD, hO, hCx, hT, hKL⟩ := hv
  have hts0 := atoms_spec (ws := .codeWith y cc 5 (some .int) [(0, 10, 13, ct)] :: mz_gw) B.pre
  have hts : ∀ w ∈ mz_gw, w.before _ s = true := fun w hw => hts0 w (List.mem_cons_of_mem _ hw)
  have hown : s.vm.findClass R_law = some m.cls := by rw [← hcls]; exact findClass_of_methodNamed B.named
  have htab : c.exceptionTable.toList = tableOf [(0, 10, 13, ct)] := vx_table (x := y) B (hts0 _ List.mem_cons_self)
  have hx := B.exec
  have hb := B.bytes
  have hr := B.returns
  have hlk := B.notSynchronized
  have hqlt : qo < s.heap.size := vx_lt hO (k := 0) rfl
  have hl := lv_entry ([.ref (ad 0), .int x, .int y9, .ref qo] : List Value) (n := 5) (Nat.le_of_ble_eq_true rfl)
  rw [lg_entry_eq]
  generalize (lg_sl ([.ref (ad 0), .int x, .int y9, .ref qo] : List Value) ++ List.replicate (5 - (lg_sl ([.ref (ad 0), .int x, .int y9, .ref qo] : List Value)).length) Slot.unset).toArray = lsA at hl ⊢
  have hl : lv_has lsA 5 [(0, .ref (ad 0)), (1, .int x), (2, .int y9), (3, .ref qo)] := hl
  refine lv_aload_n hx hb d0 rfl (lv_at hl 3 rfl) ?_
  refine lv_iconst hx hb d1 rfl ?_
  refine lv_aload_n hx hb d2 rfl (lv_at hl 0 rfl) ?_
  refine lv_iload_n hx hb d3 rfl (lv_at hl 1 rfl) ?_
  refine lv_iload_n hx hb d4 rfl (lv_at hl 2 rfl) ?_
  have hPre : ∀ U : State, U.heap = s.heap → s.WarmedH U.vm → xw_Pc D cy sK sV vF β ad (mz_fu M) [mz_r 8 0 0, mz_i x.toInt, mz_i y9.toInt] (Value.ref (ad 0) :: ([.int x, .int y9] : List Value)).toArray U := fun U hU hW => ⟨by
    have := lc_val (ad := ad) (sK := sK) (sV := sV) (vF := vF) [x, y9]
    rw [List.map_cons, lc_v0 (by omega)]
    show _ = (Value.ref (ad 0) :: ([x, y9].map (fun y => mz_i y.toInt)).map (mz_v ad sK sV vF)).toArray
    rw [this]
    rfl, by rw [hU]; exact hP, hD, mz_Cx_go hCx hW (by rw [hU]; exact Nat.le_refl _) (fun a _ _ => by rw [hU]), xw_T_go hT hW (fun a _ _ => by rw [hU])⟩
  have hrec : ∃ cellB : Cell, s.heap[ad 0]? = some cellB ∧ cellB.vm.isStatics = false ∧ s.vm.findClass (mz_y k).cls = some cellB.cls := by
    rw [q5]
    exact va_recv (q := (mz_cn 8, mz_T 8, mz_nf 8)) hCx.1 hP (mz_cl_at 8 (by omega)) (q0 := 0) (by rw [mz_ws_at _ _ _ (by show 0 < 167; omega), mz_en_o (t := 8) (n := 0) (by decide +kernel) (by omega)])
  have hpar : (parseMethodDescriptor (mz_y k).desc).map (fun d => d.parameters.length) = some 2 := by
    rcases m9 with ⟨q, -⟩ | ⟨q1, q2⟩
    · exact absurd (mz_W_inj q q3) (by intro h; cases h)
    · rw [q2, hna]
  have hcw := callB_of (R := hx_rm k) (s := s) (index := xk) (own := R_law) (rm := xw_rm k) (mc := 1) (ms := 6) 2 hts (mz_goodk m4) rfl rfl rfl (hts _ (mz_W_ok m5)) (hts _ (mz_W_ok q2)) ⟨m2, m3, hpar⟩ ⟨by show mz_dep k + 1 ≤ mz_dep k + 1; omega, by show 8 + (mz_L k + 11) + 60 * mz_dep k ≤ 60 * mz_dep k + 60; omega⟩
  refine xw_after (A := fun q => β q ∨ q = qo) (cells := 0) (slots := 0) va_S.rf (fun _ h => Or.inl h) (vx_runV (C := (mz_y k).cls) (b := ad 0) (As := [.int x, .int y9]) (rest := [.int (Int32.ofInt 0), .ref qo]) ⟨hx, hb, hml, hown, hts⟩ hM ⟨hcw, hts _ (mz_W_ok q3), hts _ (mz_W_ok q4)⟩ ⟨xw_blind, hrec, hPre⟩ rfl rfl hl.1 rfl (lv_room (by simp [Value.category])) d5 ⟨by show 0 + 1 ≤ 1; omega, by show 0 + 6 ≤ 6; omega⟩) ?_ ?_
  · intro hn q ce ad' H1 locs1 w1 w2 w3 w4 w5 w6 w7 w8 w9 w10
    subst hn
    have hcm := List.mem_of_getElem? q8
    refine vx_catch hown [] ⟨0, 10, 13, ct⟩ [] (by rw [htab]; rfl) (fun z hz => by cases hz) rfl q7 (hts _ (mz_W_ok q6)) (va_Nw.use (xw_nw_on _ hcm) (hT.1 _ hcm)) w8 w9 w10 ?_
    refine lv_astore hx hb d9 hl (by decide) rfl (fun ls2 hl2 => ?_)
    refine lv_iconst hx hb d10 rfl ?_
    exact W.iret (hlocks := hlk) hx hb hr (fun t ht _ => ⟨ad', f, w1, rfl, by rw [ht]; exact w2, w3, by rw [ht]; exact lc_keep hO (w6 qo hqlt hq), fun v hv => (by cases hv), w7.F ht, w4⟩) w7.2.2 d11
  · intro v hv ad' H1 locs1 w1 w2 w3 w4 w5 w6 w7 w8
    subst hv
    refine lv_i2l hx hb d6 rfl ?_
    refine va_last hx hb hKL (vp_cons w2 (lc_keep hO (w6 qo hqlt hq))) (vd_cons (A := fun q => β q ∨ q = qo) w3 hq (fun _ h => Or.inl h) (Or.inr rfl)) w7 0 0 rfl rfl (by unfold vp_in; decide) d7 (fun H2 locs2 z1 z2 z3 => ?_)
    obtain ⟨y1, y2⟩ := vp_tail z1
    refine lv_goto (tgt := 17) hx hb d8 (by decide) ?_
    refine lv_iconst hx hb d12 rfl ?_
    exact W.iret (hlocks := hlk) hx hb hr (fun t ht _ => ⟨ad', _, w1, rfl, by rw [ht]; exact y1, w3, by rw [ht]; exact y2, fun w hw => by cases hw; rfl, z3.F ht, w4⟩) z3.2.2 d13
/-- the call of it, in the law -/
theorem lc_help2 {y : MethodName} {cc : ByteArray} {k xk xh ct pk pt pcast pc9 pm ps pi pc : Nat} {E0 : String} {res : Option Int} {x y9 : Int32} (C0 : lw_At p s m meth c b L xs) (hX : lc_X s D cy sK sV vF cL) (hcls : y.cls = R_law) (hword : mz_W pc9 (.codeWith y cc 5 (some .int) [(0, 10, 13, ct)]) = true) (hd : hx_d2 cc xk = true) (hk : hx_k k xk pk ct pt pcast E0 = true) (hna : mz_na k = 3) (hdep : mz_dep k ≤ 30)
    (h1 : mz_W pm (.methodLink R_law xh y) = true) (h2 : mz_W ps (.static y) = true) (h3 : mz_W pi (.initialized y.cls) = true) (hpar : (parseMethodDescriptor y.desc).map (fun d => d.parameters.length) = some 4) (hM : xw_Met l D cy sK sV vF (lb s qo) k E0 ad [mz_r 8 0 0, mz_i x.toInt, mz_i y9.toInt] M res M1) (hdg : lwD pc (.invokestatic xh) 3 = true) (hls : ls.size = 7) (hW : lc_W s D cy cL qo ad f M H locs) (hc : cells + 1 ≤ 601024) (hs : slots + 6 ≤ 7293034)
    (kk : ∀ (ad' : Nat → Nat) (f' : Nat → Int64) (H1 : Heap) (locs1 : List Loc), (∀ q, q < 167 → ad' q = ad q) → lc_W s D cy cL qo ad' f' M1 H1 locs1 → (∀ v, res = some v → f' 0 = (Int32.ofInt v).toInt64) → W p l e room_1 s m #[Value.ref b] below meth c H1 locs1 (cells + 1) (slots + 6) Q (F0 m (pc + 3) ls [.int (Int32.ofInt (if res = none then 1 else 0))])) :
    W p l e room_1 s m #[Value.ref b] below meth c H locs cells slots Q (F0 m pc ls [.ref qo, .int y9, .int x, .ref (ad 0)]) := by
  obtain ⟨hx, hb, hr, hml, hown, hts, hXs, hbl, hlk, hgv⟩ := C0
  have hgw := lw_gw hts
  obtain ⟨hP, hD, hO, hS, hwS, hqo⟩ := hW
  have hqlt : qo < H.size := vx_lt hO (k := 0) rfl
  have hMet := hx_met2 (cL := cL) (qo := qo) (f := f) hcls hword hd hk hna hM (fun q => q.2 rfl)
  have hPre : ∀ U : State, U.heap = H → s.WarmedH U.vm → hx_Pc D cy sK sV vF cL (lb s qo) qo ad f M [.ref (ad 0), .int x, .int y9, .ref qo] ([.ref (ad 0), .int x, .int y9, .ref qo] : List Value).toArray U := fun U hU hW2 => ⟨rfl, by rw [hU]; exact hP, hD, by rw [hU]; exact hO, lc_Cx hX.1 hW2 (by rw [hU]; exact hS) (by rw [hU]; exact hqlt), lc_T hX.2.1 hW2 (by rw [hU]; exact hS), va_K.moved hW2.alike hX.2.2⟩
  have hcw := vx_cwSW (R := room_1) (s := s) (args := #[Value.ref b]) (own := R_law) (index := xh) (rm := hx_rm k) (mc := 1) (ms := 6) (Ts := mz_gw) 4 hgw (hx_good h1 h2 h3 hword) rfl rfl rfl ⟨by rw [hcls]; decide +kernel, by rw [hcls]; decide +kernel, hpar⟩ ⟨by show mz_dep k + 1 + 1 ≤ 2048; omega, by show 8 + (5 + 11) + (60 * mz_dep k + 60) ≤ 84000; omega⟩
  have hrun := vx_runSW (e := e) (meth := meth) (below := below) (H := H) (locs := locs) (cells := cells) (slots := slots) (As := [.ref (ad 0), .int x, .int y9, .ref qo]) (rest := []) (g := F0 m pc ls [.ref qo, .int y9, .int x, .ref (ad 0)]) ⟨hx, hb, hml, hown, hgw⟩ hMet hcw ⟨hx_blind, hPre⟩ rfl rfl hls rfl (lv_room (by decide)) (lwD_ok hdg) ⟨hc, hs⟩
  intro T hT X
  obtain ⟨v', st₀, t', T', L', e0, X', hL, eh, -, ⟨ad', f', ha, hv, hP', hD', hO', hf', hFr, hwS'⟩, hgo⟩ := hrun T hT X
  have hv := Outcome.returned.inj hv
  subst hv
  have key := kk ad' f' t'.heap (locs ++ L') ha ⟨hP', hD', hO', ⟨?_, fun q a1 a2 => ?_, fun z hz => ?_⟩, hwS', hqo⟩ hf'
  · obtain ⟨t2, a1, b1⟩ := key T' eh X'
    exact ⟨t2, hgo t2 a1, b1⟩
  · exact Nat.le_trans hS.1 (by rw [← e0]; exact hFr.1)
  · rw [hFr.2 q (by rw [e0]; exact Nat.lt_of_lt_of_le a1 hS.1) (fun z => z.elim (fun z => a2 z.1) (fun z => a2 (by rw [z]; exact hqo))), e0]
    exact hS.2.1 q a1 a2
  · rcases List.mem_append.mp hz with hz | hz
    · exact hS.2.2 z hz
    · rcases hL z hz with z | z
      · exact z.1
      · rw [z]; exact hqo
def lc_t2 (pc xh x9 xt : Nat) (off : Int) : Bool := lwD pc (.aload_n 1) 1 && lc_args 2 (pc + 1) 1 && lwD (pc + 1 + 12) (.aload_n 3) 1 && lwD (pc + 1 + 12 + 1) (.invokestatic xh) 3 && lwD (pc + 1 + 12 + 1 + 3) (.istore 5) 2 && lwD (pc + 1 + 12 + 1 + 3 + 2) (.aload_n 2) 1 && lc_args 2 (pc + 1 + 12 + 1 + 3 + 2 + 1) 1 && lwD (pc + 1 + 12 + 1 + 3 + 2 + 1 + 12) (.invokevirtual x9) 3 && lwD ((pc + 1 + 12 + 1 + 3 + 2 + 1 + 12) + 3) (.istore 6) 2 && lwD ((pc + 1 + 12 + 1 + 3 + 2 + 1 + 12) + 3 + 2) (.aload_n 2) 1 && lwD ((pc + 1 + 12 + 1 + 3 + 2 + 1 + 12) + 3 + 2 + 1) (.invokevirtual xt) 3 && lwD ((pc + 1 + 12 + 1 + 3 + 2 + 1 + 12) + 3 + 2 + 1 + 3) (.iload 5) 2 && lwD ((pc + 1 + 12 + 1 + 3 + 2 + 1 + 12) + 3 + 2 + 1 + 3 + 2) (.if_icmp .eq 5) 3 && lwD ((pc + 1 + 12 + 1 + 3 + 2 + 1 + 12) + 16) (.iload 5) 2 && lwD ((pc + 1 + 12 + 1 + 3 + 2 + 1 + 12) + 16 + 2) (.ifCond .ne 15) 3 && lwD ((pc + 1 + 12 + 1 + 3 + 2 + 1 + 12) + 16 + 2 + 3) (.aload_n 3) 1 && lwD ((pc + 1 + 12 + 1 + 3 + 2 + 1 + 12) + 16 + 2 + 3 + 1) (.iconst 0) 1 && lwD ((pc + 1 + 12 + 1 + 3 + 2 + 1 + 12) + 16 + 2 + 3 + 1 + 1) .laload 1 && lwD ((pc + 1 + 12 + 1 + 3 + 2 + 1 + 12) + 16 + 2 + 3 + 1 + 1 + 1) (.iload 6) 2 && lwD ((pc + 1 + 12 + 1 + 3 + 2 + 1 + 12) + 16 + 2 + 3 + 1 + 1 + 1 + 2) .i2l 1 && lwD ((pc + 1 + 12 + 1 + 3 + 2 + 1 + 12) + 16 + 2 + 3 + 1 + 1 + 1 + 2 + 1) .lcmp 1 && lwD ((pc + 1 + 12 + 1 + 3 + 2 + 1 + 12) + 16 + 2 + 3 + 1 + 1 + 1 + 2 + 1 + 1) (.ifCond .eq 5) 3 && lwD ((pc + 1 + 12 + 1 + 3 + 2 + 1 + 12) + 33) (.goto off) 3 && decide ((((pc + 1 + 12 + 1 + 3 + 2 + 1 + 12) + 33 : Nat) : Int) + off = ((2215 : Nat) : Int))
/-- a case with a throw -/
theorem lc_thr2 {y : MethodName} {cc : ByteArray} {k k9 xk xh x9 xt y9 yt ct pk pt pcast pc9 pm ps pi pc a0 a9 : Nat} {E0 : String} {off : Int} {x4 : Int32} (hl0 : l.stackTraces = false) (C0 : lw_At p s m meth c b L xs) (hX : lc_X s D cy sK sV vF cL) (hJ : lc_J p l e s m below meth c Q b D cy cL qo a0 a9 x4 cells slots) (hcc : cells ≤ 601000) (hss : slots ≤ 7293000)
    (hin : ∀ i, 1 ≤ i → i ≤ 3 → vp_in (x4 + Int32.ofInt ((i : Nat) : Int)) L) (h0 : ad 0 = a0) (h9 : ad 153 = a9) (hW : lc_W s D cy cL qo ad f M H locs) (hl : lv_has ls 7 [(0, .ref b), (1, .ref a0), (2, .ref a9), (3, .ref qo), (4, .int x4)])
    (hcls : y.cls = R_law) (hword : mz_W pc9 (.codeWith y cc 5 (some .int) [(0, 10, 13, ct)]) = true) (hd : hx_d2 cc xk = true) (hk : hx_k k xk pk ct pt pcast E0 = true) (hna : mz_na k = 3) (hdep : mz_dep k ≤ 30)
    (h1 : mz_W pm (.methodLink R_law xh y) = true) (h2 : mz_W ps (.static y) = true) (h3 : mz_W pi (.initialized y.cls) = true) (hpar : (parseMethodDescriptor y.desc).map (fun d => d.parameters.length) = some 4)
    (hc : lc_t2 pc xh x9 xt off = true) (hk9 : lc_k k9 x9 y9 9 153 = true) (hkt : lc_k 49 xt yt 9 153 = true) (hn9 : mz_na k9 = 3) (hb : botX k E0 k9 ([lc_y xs x4 1, lc_y xs x4 2].map (fun y => mz_i y.toInt)) M) :
    W p l e room_1 s m #[Value.ref b] below meth c H locs cells slots Q (F0 m pc ls []) := by
  obtain ⟨hx, hb9, hr, hml, hown, hts, hXs, hbl, hlk, hgv⟩ := id C0
  simp only [lc_t2, Bool.and_eq_true, decide_eq_true_eq] at hc
  obtain ⟨⟨⟨⟨⟨⟨⟨⟨⟨⟨⟨⟨⟨⟨⟨⟨⟨⟨⟨⟨⟨⟨⟨d1, d2⟩, d3⟩, d4⟩, d5⟩, d6⟩, d7⟩, d8⟩, d9⟩, d10⟩, d11⟩, d12⟩, d13⟩, d14⟩, d15⟩, d16⟩, d17⟩, d18⟩, d19⟩, d20⟩, d21⟩, d22⟩, d23⟩, d24⟩ := hc
  obtain ⟨res, m1, w, m2, s1, s2, hth, hres, hR⟩ := hb
  refine lv_aload_n hx hb9 (lwD_ok d1) rfl (lv_at hl 1 rfl) ?_
  refine lc_pushes C0 (lv_at hl 0 rfl) (lv_at hl 4 rfl) hW.2.2.2.1 2 _ 1 _ d2 (fun i h1 h2 => hin i h1 (by omega)) ?_
  refine lv_aload_n hx hb9 (lwD_ok d3) rfl (lv_at hl 3 rfl) ?_
  rw [← h0]
  refine lc_help2 C0 hX hcls hword hd hk hna hdep h1 h2 h3 hpar (s1 l D cy sK sV vF (lb s qo) ad hl0) d4 hl.1 hW (by omega) (by omega) (fun ad1 f1 H1 locs1 e1 W1 hf1 => ?_)
  refine lv_istore (lv' := [(5, .int (Int32.ofInt (if res = none then 1 else 0))), (0, .ref b), (1, .ref a0), (2, .ref a9), (3, .ref qo), (4, .int x4)]) hx hb9 (lwD_ok d5) hl (by decide) rfl (fun ls1 hl1 => ?_)
  refine lv_aload_n hx hb9 (lwD_ok d6) rfl (lv_at hl1 3 rfl) ?_
  refine lc_pushes C0 (lv_at hl1 1 rfl) (lv_at hl1 5 rfl) W1.2.2.2.1 2 _ 1 _ d7 (fun i h1 h2 => hin i h1 (by omega)) ?_
  have e9 : a9 = ad1 153 := by rw [e1 153 (by omega)]; exact h9.symm
  rw [e9]
  refine lc_call (ys := [lc_y xs x4 1, lc_y xs x4 2]) (o := 153) C0 hX hk9 (by rw [hn9]; rfl) s2 d8 hl1.1 (by simp) W1 (by omega) (by omega) (fun ad2 H2 locs2 e2 W2 _ => ?_)
  refine lv_istore (lv' := [(6, .int (Int32.ofInt w)), (5, .int (Int32.ofInt (if res = none then 1 else 0))), (0, .ref b), (1, .ref a0), (2, .ref a9), (3, .ref qo), (4, .int x4)]) hx hb9 (lwD_ok d9) hl1 (by decide) rfl (fun ls2 hl2 => ?_)
  refine lv_aload_n hx hb9 (lwD_ok d10) rfl (lv_at hl2 4 rfl) ?_
  have e99 : a9 = ad2 153 := by rw [e2 153 (by omega)]; exact e9
  rw [e99]
  refine lc_call (ys := []) (o := 153) C0 hX hkt rfl (sp_X9_thrown m2) d11 hl2.1 (by simp) W2 (by omega) (by omega) (fun ad3 H3 locs3 e3 W3 _ => ?_)
  refine lv_iload hx hb9 (lwD_ok d12) (lv_at hl2 1 rfl) ?_
  refine lv_icmp_eq (tgt := (pc + 1 + 12 + 1 + 3 + 2 + 1 + 12) + 16) hx hb9 (lwD_ok d13) (by omega) (fun _ => ?_) (fun q => absurd (by rw [hth]) q)
  have J := hJ ad3 f1 m2 H3 locs3 ls2 (by rw [e3 0 (by omega), e2 0 (by omega), e1 0 (by omega)]; exact h0) (by rw [e3 153 (by omega)]; exact e99.symm) W3 hR (lv_sub hl2 [2, 3, 4, 5, 6] rfl)
  have J2 : W p l e room_1 s m #[Value.ref b] below meth c H3 locs3 (cells + 1) (slots + 6) Q (F0 m ((pc + 1 + 12 + 1 + 3 + 2 + 1 + 12) + 33) ls2 []) := lv_goto (tgt := 2215) hx hb9 (lwD_ok d23) d24 J
  refine lv_iload hx hb9 (lwD_ok d14) (lv_at hl2 1 rfl) ?_
  refine lv_if_ne (tgt := (pc + 1 + 12 + 1 + 3 + 2 + 1 + 12) + 33) hx hb9 (lwD_ok d15) (by omega) (fun _ => J2) (fun q => ?_)
  cases res with
  | none => exact absurd q (by decide)
  | some v =>
    refine lv_aload_n hx hb9 (lwD_ok d16) rfl (lv_at hl2 5 rfl) ?_
    refine lv_iconst hx hb9 (lwD_ok d17) rfl ?_
    refine va_lald hx hb9 hX.2.2 W3.2.2.1 0 0 rfl rfl (by unfold vp_in; decide) (lwD_ok d18) ?_
    refine lv_iload hx hb9 (lwD_ok d19) (lv_at hl2 0 rfl) ?_
    refine lv_i2l hx hb9 (lwD_ok d20) rfl ?_
    refine W.lcmp hx hb9 (lwD_ok d21) ?_
    refine lv_if_eq (tgt := (pc + 1 + 12 + 1 + 3 + 2 + 1 + 12) + 33) hx hb9 (lwD_ok d22) (by omega) (fun _ => J2) (fun q => ?_)
    refine absurd ?_ q
    rw [show f1 (Int32.ofInt 0).toNatClampNeg = (Int32.ofInt v).toInt64 from hf1 v rfl, hres v rfl]
    exact lg_cmp_self _
end Hx
