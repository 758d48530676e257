/-! The law's start: both objects are made. -/
/-- the references that stand when all is made -/
def riR (o k : Nat) : Prop := ((mz_kd o).1 < 10 ∧ k < mz_nf (mz_kd o).1 ∧ (mz_fr (mz_kd o).1 k).isSome = true) ∨ ((103 ≤ (mz_kd o).1 ∧ (mz_kd o).1 ≤ 105) ∧ k < (mz_kd o).2)
def riT (w o k : Nat) : Bool := (o == w && decide (3 ≤ k) && decide (k ≤ 8)) || (o == w + 6 && decide (k < 4)) || ((o == w + 7 || o == w + 9 || o == w + 11 || o == w + 13) && k == 0)
def riW (u o k : Nat) : Bool := (o == u && decide (k < 3)) || riT (u + 1) o k || (o == u + 16 && decide (k < 16)) || (o == u + 17 && decide (1 ≤ k) && decide (k ≤ 6))
def riM (k : Nat) : Bool := k == 0 || k == 1 || k == 2 || k == 3 || k == 5 || k == 12 || k == 13 || k == 14 || k == 15 || k == 16 || k == 17 || k == 22 || k == 23
def riA (o k : Nat) : Bool := (o == 0 && decide (k < 6)) || (o == 1 && decide (k < 2)) || riT 2 o k || riW 18 o k || (o == 58 && decide (k < 2)) || riW 59 o k || riW 99 o k || (o == 140 && decide (k < 9)) || (o == 150 && decide (k < 2)) || (o == 153 && riM k)
def riB (o k : Nat) : Bool := (decide ((mz_kd o).1 < 10) && decide (k < mz_nf (mz_kd o).1) && (mz_fr (mz_kd o).1 k).isSome) || (decide (103 ≤ (mz_kd o).1) && decide ((mz_kd o).1 ≤ 105) && decide (k < (mz_kd o).2))
theorem ri_tab : ((List.range 167).all fun o => (List.range 30).all fun k => !riB o k || riA o k) = true := by decide +kernel
theorem ri_lim : ((List.range 167).all fun o => decide ((mz_kd o).1 < 10 → mz_nf (mz_kd o).1 ≤ 30) && decide (103 ≤ (mz_kd o).1 → (mz_kd o).2 ≤ 30)) = true := by decide +kernel
theorem riR_A {o k : Nat} (ho : o < 167) (h : riR o k) : riA o k = true := by
  have l := List.all_eq_true.mp ri_lim o (List.mem_range.mpr ho)
  simp only [Bool.and_eq_true, decide_eq_true_eq] at l
  have hk : k < 30 := by
    rcases h with h | h
    · have := l.1 h.1; omega
    · have := l.2 h.1.1; omega
  have t := List.all_eq_true.mp (List.all_eq_true.mp ri_tab o (List.mem_range.mpr ho)) k (List.mem_range.mpr hk)
  have b : riB o k = true := by
    unfold riB
    rcases h with ⟨h1, h2, h3⟩ | ⟨⟨h1, h2⟩, h3⟩
    · rw [decide_eq_true h1, decide_eq_true h2, h3]; rfl
    · rw [decide_eq_true h1, decide_eq_true h2, decide_eq_true h3]; simp
  rw [b] at t
  exact t
theorem riT_ok {I : Nat → Nat → Bool} {w o k : Nat} (h : iTo I w) (hr : riT w o k = true) : I o k = true := by
  simp only [riT, Bool.or_eq_true, Bool.and_eq_true, beq_iff_eq, decide_eq_true_eq] at hr
  rcases hr with (⟨⟨rfl, h1⟩, h2⟩ | ⟨rfl, h1⟩) | ⟨h1, rfl⟩
  · exact h.1 k h1 h2
  · exact h.2.1 k h1
  · rcases h1 with ((rfl | rfl) | rfl) | rfl
    · exact h.2.2 0 (by omega)
    · exact h.2.2 1 (by omega)
    · exact h.2.2 2 (by omega)
    · exact h.2.2 3 (by omega)
theorem riW_ok {I : Nat → Nat → Bool} {u o k : Nat} (h : iWo I u) (hr : riW u o k = true) : I o k = true := by
  simp only [riW, Bool.or_eq_true, Bool.and_eq_true, beq_iff_eq, decide_eq_true_eq] at hr
  rcases hr with ((⟨rfl, h1⟩ | h1) | ⟨rfl, h1⟩) | ⟨⟨rfl, h1⟩, h2⟩
  · exact h.1 k h1
  · exact riT_ok h.2.1 h1
  · exact h.2.2.1 k h1
  · exact h.2.2.2 k h1 h2
theorem ws_fu {ad : Nat → Nat} {cy : Nat → ClassId} {S : Nat} {I : Nat → Nat → Bool} {M : mz_M} (h : ∀ o k, o < 167 → riR o k → I o k = true) : mz_ws ad cy (gS 167 S I M) = mz_ws ad cy (mz_fu M) := by
  refine mz_ws_ext rfl (fun _ _ => rfl) (fun o ho => ?_)
  have ho : o < 167 := ho
  unfold mz_en
  split
  · rename_i q
    congr 2
    apply List.map_congr_left
    intro k hk
    have hk := List.mem_range.mp hk
    unfold mz_fv
    cases hf : mz_fr (mz_kd o).1 k with
    | none => rfl
    | some x =>
      obtain ⟨t, n, f⟩ := x
      have := h o k ho (Or.inl ⟨q, hk, by rw [hf]; rfl⟩)
      show (if I o k = true then _ else _) = (if true = true then _ else _)
      rw [if_pos this, if_pos rfl]
  · split
    · rfl
    · rename_i q1 q2
      congr 6
      refine congrArg Sum.inr (funext fun k => ?_)
      unfold mz_rw
      show (if k < (mz_kd o).2 ∧ I o k = true then _ else _) = (if k < (mz_kd o).2 ∧ true = true then _ else _)
      by_cases hk : k < (mz_kd o).2
      · have h5 : (mz_kd o).1 ≤ 105 := by have := (mz_kd_ok ho).1; omega
        rw [if_pos ⟨hk, h o k ho (Or.inr ⟨⟨by omega, h5⟩, hk⟩)⟩, if_pos ⟨hk, rfl⟩]
      · rw [if_neg (fun q => hk q.1), if_neg (fun q => hk q.1)]
theorem wS_fu {S : Nat} {I : Nat → Nat → Bool} {M : mz_M} (h : ∀ o k, o < 167 → riR o k → I o k = true) (hw : mz_wS (gS 167 S I M)) : mz_wS (mz_fu M) := by
  obtain ⟨h1, h2, h3, h4, h5, h6⟩ := hw
  refine ⟨h1, h2, h3, h4, fun o ho k t n f hk hf _ => ?_, fun o ho a1 a2 k hk _ => ?_⟩
  · by_cases q : (mz_kd o).1 < 10
    · exact h5 o ho k t n f hk hf (h o k ho (Or.inl ⟨q, hk, by rw [hf]; rfl⟩))
    · exfalso
      have : mz_nf (mz_kd o).1 = 0 := by
        unfold mz_nf
        rw [List.getD_eq_getElem?_getD, List.getElem?_eq_none (by simp; omega)]
        rfl
      omega
  · exact h6 o ho a1 a2 k hk (h o k ho (Or.inr ⟨⟨a1, a2⟩, hk⟩))
section Start
variable {p : Program} {l : Launch} {e : Env} {s : State} {m : MethodId} {below : List Frame} {meth : Method} {c : Code} {Q : State → Prop} {b L : Nat} {xs : Nat → Int32}
variable {D : va_G} {cy : Nat → ClassId} {sK sV : Nat → Nat} {vF : Value} {ad : Nat → Nat} {H : Heap} {locs : List Loc} {cells slots : Nat} {ls : Array Slot} {rest : List Value} {σ σ1 : mz_S}
theorem lc_new {a pc x pl : Nat} (C0 : lw_At p s m meth c b L xs) (hCx : mz_Cx D cy sK sV vF (fun q : Nat => s.heap.size ≤ q) s) (ha : a < 10) (hkd : mz_kd σ.1 = (a, 0)) (hw : mz_W pl (.classLink R_law x (mz_cn a)) = true) (hd : lwD pc (.new x) 3 = true) (hP : va_P D vwCl (mz_ws ad cy σ) H) (hD : va_D (fun q : Nat => s.heap.size ≤ q) (mz_ws ad cy σ)) (hS : va_S (fun q : Nat => s.heap.size ≤ q) s.heap H locs) (hwS : mz_wS σ) (hc : cells + 1 ≤ 601024) (hs : slots + mz_nf a ≤ 7293034)
    (kk : ∀ (q : Nat) (H1 : Heap), va_P D vwCl (mz_ws (mz_an ad σ q) cy (mz_nw9 σ (mz_nf a))) H1 → va_D (fun q : Nat => s.heap.size ≤ q) (mz_ws (mz_an ad σ q) cy (mz_nw9 σ (mz_nf a))) → va_S (fun q : Nat => s.heap.size ≤ q) s.heap H1 locs → mz_wS (mz_nw9 σ (mz_nf a)) → W p l e room_1 s m #[Value.ref b] below meth c H1 locs (cells + 1) (slots + mz_nf a) Q (F0 m (pc + 3) ls (.ref q :: rest))) :
    W p l e room_1 s m #[Value.ref b] below meth c H locs cells slots Q (F0 m pc ls rest) := by
  obtain ⟨hx, hb, hr, hml, hown, hts, hXs, hbl, hlk, hgv⟩ := C0
  have hgw := lw_gw hts
  refine va_new hx hb hgw (mz_hin ha) (mz_ty a) (mz_hty ha) hown (hgw _ (mz_W_ok hw)) (hgw _ (mz_ins ha).1) (hgw _ (mz_ins ha).2) hCx.1 hP hD hS (fun _ h => h) (mz_cl_at a ha) (fs := (List.range (mz_nf a)).map (fun j => defaultValue (mz_ty a j))) (fun j hj => by simp [vp_V, List.getD_eq_getElem?_getD, hj]) hc hs (lwD_ok hd) (fun q H1 q1 q2 q3 => ?_)
  have hset : mz_ws ad cy σ ++ [(q, .inr (a, (List.range (mz_nf a)).map (fun j => defaultValue (mz_ty a j))))] = mz_ws (mz_an ad σ q) cy (mz_nw9 σ (mz_nf a)) := by
    refine mz_ws_new hwS ?_
    rw [mz_en_o hkd ha]
    refine congrArg (fun z : List Value => (Sum.inr (a, z) : va_E)) (List.map_congr_left fun j hj => ?_)
    have hj := List.mem_range.mp hj
    unfold mz_fv
    show (match mz_fr a j with | some (_, _, f) => if mz_if σ.2.2.1 σ.1 σ.1 j = true then _ else _ | none => Value.int (Int32.ofInt (mz_zr σ.2.2.2 σ.1 σ.1 j))) = _
    unfold mz_if mz_zr
    cases hf : mz_fr a j with
    | none => simp only [if_true]; rw [mz_tyI ha hj hf]; rfl
    | some x =>
      obtain ⟨t, n', f⟩ := x
      simp only [if_true]
      rcases mz_tyR ha hj (by rw [hf]; rfl) with ⟨n, hn⟩ | ⟨n, hn⟩ <;> rw [hn] <;> rfl
  rw [hset] at q1 q2
  exact kk q H1 q1 q2 q3 (mz_wS_new hwS (by rw [hkd]; show a ≠ 999; omega))
def lc_i (k x y : Nat) : Bool := decide (k < 300) && mz_W y (.methodLink R_law x (mz_y k)) && mz_W (mz_wp k).2.1 (.instanceMethod (mz_y k)) && decide (mz_dep k ≤ 30) && decide ((mz_y k).name = "<init>") && decide (mz_rt k = none) && decide (mz_na k = 1)
theorem lc_init {k x y t o pc : Nat} (C0 : lw_At p s m meth c b L xs) (hCx : mz_Cx D cy sK sV vF (fun q : Nat => s.heap.size ≤ q) s) (hk : lc_i k x y = true) (ht : t < 10) (ho : o < σ.1) (hkd : mz_kd o = (t, 0)) (hcl : mz_cl k [mz_r t 0 o] σ none σ1) (hd : lwD pc (.invokespecial x) 3 = true) (hls : ls.size = 7) (hrest : (rest.map fun v => v.category).sum ≤ 8) (hP : va_P D vwCl (mz_ws ad cy σ) H) (hD : va_D (fun q : Nat => s.heap.size ≤ q) (mz_ws ad cy σ)) (hS : va_S (fun q : Nat => s.heap.size ≤ q) s.heap H locs) (hwS : mz_wS σ) (hc : cells + (σ1.1 - σ.1) ≤ 601024) (hs : slots + (σ1.2.1 - σ.2.1) ≤ 7293034)
    (kk : ∀ (ad' : Nat → Nat) (H1 : Heap) (locs1 : List Loc), (∀ q, q < σ.1 → ad' q = ad q) → va_P D vwCl (mz_ws ad' cy σ1) H1 → va_D (fun q : Nat => s.heap.size ≤ q) (mz_ws ad' cy σ1) → va_S (fun q : Nat => s.heap.size ≤ q) s.heap H1 locs1 → mz_wS σ1 → W p l e room_1 s m #[Value.ref b] below meth c H1 locs1 (cells + (σ1.1 - σ.1)) (slots + (σ1.2.1 - σ.2.1)) Q (F0 m (pc + 3) ls rest)) :
    W p l e room_1 s m #[Value.ref b] below meth c H locs cells slots Q (F0 m pc ls (.ref (ad o) :: rest)) := by
  obtain ⟨hx, hb, hr, hml, hown, hts, hXs, hbl, hlk, hgv⟩ := C0
  simp only [lc_i, Bool.and_eq_true, decide_eq_true_eq] at hk
  obtain ⟨⟨⟨⟨⟨⟨k1, k2⟩, k3⟩, k4⟩, k5⟩, k6⟩, k7⟩ := hk
  have hgw := lw_gw hts
  obtain ⟨m1, m2, m3, m4, m5, m6, m7, m8, m9, m10⟩ := mz_mok_ok (mz_okA k k1)
  have hMet := mz_contract (l := l) (D := D) (cy := cy) (sK := sK) (sV := sV) (vF := vF) (β := fun q : Nat => s.heap.size ≤ q) mz_okA k1 hcl hwS (fun v hv => by
    rcases List.mem_cons.mp hv with rfl | hv
    · exact mz_of_wf ho hwS.1 hkd
    · cases hv) (by rw [k7]; rfl) ad
  have hPre : ∀ U : State, U.heap = H → s.WarmedH U.vm → mz_Pc D cy sK sV vF (fun q : Nat => s.heap.size ≤ q) ad σ [mz_r t 0 o] (Value.ref (ad o) :: ([] : List Value)).toArray U := fun U hU hW2 => ⟨by
    show _ = (List.map (mz_v ad sK sV vF) [mz_r t 0 o]).toArray
    rw [List.map_cons, mz_v_o (Or.inl (by omega))]
    rfl, by rw [hU]; exact hP, hD, mz_Cx_go hCx hW2 (by rw [hU]; exact hS.1) (fun q a1 a2 => by rw [hU]; exact hS.2.1 q a1 a2)⟩
  have hpar : (parseMethodDescriptor (mz_y k).desc).map (fun d => d.parameters.length) = some 0 := by
    rcases m9 with ⟨q, -⟩ | ⟨q1, q2⟩
    · exact absurd (mz_W_inj q k3) (by intro h; cases h)
    · rw [q2, k7]
  rw [k6] at m4
  have hMet := hMet
  unfold mz_Met mz_wsk at hMet
  rw [k6] at hMet
  have hgd := mz_goodk (k := k) (by rw [k6]; exact m4)
  unfold mz_wsk at hgd
  rw [k6] at hgd
  have hcw := callB_of (R := room_1) (s := s) (args := #[Value.ref b]) (index := x) (own := R_law) (rm := mz_rm9 k σ σ1) (mc := σ1.1 - σ.1) (ms := σ1.2.1 - σ.2.1) 0 hgw hgd rfl rfl rfl (hgw _ (mz_W_ok m5)) (hgw _ (mz_W_ok k2)) ⟨m2, m3, hpar⟩ ⟨by show mz_dep k + 1 ≤ 2048; omega, by show 8 + (mz_L k + 11) + 60 * mz_dep k ≤ 84000; omega⟩
  have hrun := va_runI (e := e) (meth := meth) (below := below) (H := H) (locs := locs) (cells := cells) (slots := slots) (b := ad o) (As := []) (rest := rest) (g := F0 m pc ls (.ref (ad o) :: rest)) ⟨hx, hb, hml, hown, hgw⟩ hMet ⟨hcw, k5, hgw _ (mz_W_ok k3)⟩ ⟨mz_blind, hPre⟩ rfl rfl hls rfl (lv_room hrest) (lwD_ok hd) ⟨hc, hs⟩
  intro T hT X
  obtain ⟨v', st₀, t', T', L', e0, X', hL, eh, -, ⟨ad', ha, hv, hP', hD', hFr, hwS', hwf'⟩, hgo⟩ := hrun T hT X
  have hv : v' = none := Outcome.returned.inj hv
  subst hv
  have key := kk ad' t'.heap (locs ++ L') ha hP' hD' ⟨?_, fun q a1 a2 => ?_, fun z hz => ?_⟩ hwS'
  · obtain ⟨t2, a1, b1⟩ := key T' eh X'
    exact ⟨t2, hgo t2 a1, b1⟩
  · exact Nat.le_trans hS.1 (by rw [← e0]; exact hFr.1)
  · rw [hFr.2 q (by rw [e0]; exact Nat.lt_of_lt_of_le a1 hS.1) a2, e0]
    exact hS.2.1 q a1 a2
  · rcases List.mem_append.mp hz with hz | hz
    · exact hS.2.2 z hz
    · exact hL z hz
theorem vd_snoc {A : Nat → Prop} {x : Nat × va_E} {ws : va_W} (h : va_D A (ws ++ [x])) : va_D (fun q => A q ∧ q ≠ x.1) ws := by
  have ap : ∀ (i : Nat) (q : Nat × va_E), ws[i]? = some q → (ws ++ [x])[i]? = some q := fun i q hq => by
    rw [List.getElem?_append_left (List.getElem?_eq_some_iff.mp hq).1]; exact hq
  refine ⟨fun i j p q hp hq e => h.1 i j p q (ap i p hp) (ap j q hq) e, fun k q hq => ⟨h.2 k q (ap k q hq), fun e => ?_⟩⟩
  have := h.1 k ws.length q x (ap k q hq) (by rw [List.getElem?_append_right (Nat.le_refl _), Nat.sub_self]; rfl) e
  have := (List.getElem?_eq_some_iff.mp hq).1
  omega
theorem vp_app {x : Nat × va_E} {ws : va_W} (h : va_P D vwCl (ws ++ [x]) H) : va_P D vwCl ws H ∧ va_P D vwCl [x] H := by
  refine ⟨fun k q hq => h k q (by rw [List.getElem?_append_left (List.getElem?_eq_some_iff.mp hq).1]; exact hq), fun k q hq => ?_⟩
  cases k with
  | zero => exact h ws.length q (by rw [List.getElem?_append_right (Nat.le_refl _), Nat.sub_self]; exact hq)
  | succ k => simp at hq
def s000 : mz_S := (0, 0, fun _ _ => false, fun _ _ => 0)
theorem wS_00 : mz_wS s000 := ⟨by show 0 ≤ 167; omega, fun _ _ => mz_w0, fun _ _ _ => Or.inl rfl, fun _ _ _ => ⟨by show (-128 : Int) ≤ 0; omega, by show (0 : Int) ≤ 127; omega⟩, fun o ho => absurd ho (Nat.not_lt_zero o), fun o ho => absurd ho (Nat.not_lt_zero o)⟩
set_option maxRecDepth 20000 in
theorem whole_start0 (hl0 : l.stackTraces = false) (hL : L ≤ 2048) (C0 : lw_At p s m meth c b L xs) : W p l e room_1 s m #[Value.ref b] below meth c s.heap [] 0 0 (lw_Z below #[Value.ref b] s) (entryFrame m ([Value.ref b] : List Value).toArray 7) := by
  obtain ⟨hx, hb, hr, hml, hown, hts, hXs, hbl, hlk, hgv⟩ := id C0
  obtain ⟨D, cy, sK, sV, vF, hCx, hT⟩ := lw_ctx hts hgv
  have hl := lv_entry ([.ref b] : List Value) (n := 7) (Nat.le_of_ble_eq_true rfl)
  rw [lg_entry_eq]
  generalize (lg_sl ([.ref b] : List Value) ++ List.replicate (7 - (lg_sl ([.ref b] : List Value)).length) Slot.unset).toArray = ls at hl ⊢
  have hl : lv_has ls 7 [(0, .ref b)] := hl
  have hP0 : va_P D vwCl (mz_ws (fun _ => 0) cy s000) s.heap := fun k q h => by
    have : mz_ws (fun _ => 0) cy s000 = [] := rfl
    rw [this] at h
    simp at h
  have hD0 : va_D (fun q : Nat => s.heap.size ≤ q) (mz_ws (fun _ => 0) cy s000) := by
    have : mz_ws (fun _ => 0) cy s000 = [] := rfl
    rw [this]
    exact ⟨fun i j p q h => by simp at h, fun k q h => by simp at h⟩
  have d3 : decode code 3 = .ok (.dup, 1) := by decide +kernel
  have d7 : decode code 7 = .ok (.astore_n 1, 1) := by decide +kernel
  have d11 : decode code 11 = .ok (.dup, 1) := by decide +kernel
  have d15 : decode code 15 = .ok (.astore_n 2, 1) := by decide +kernel
  have d16 : decode code 16 = .ok (.iconst 1, 1) := by decide +kernel
  have d17 : decode code 17 = .ok (.newarray .long, 2) := by decide +kernel
  have d19 : decode code 19 = .ok (.astore_n 3, 1) := by decide +kernel
  have d20 : decode code 20 = .ok (.iconst 0, 1) := by decide +kernel
  have d21 : decode code 21 = .ok (.istore 4, 2) := by decide +kernel
  refine lc_new (a := 8) (x := 8) (pl := 1025) C0 hCx (by omega) rfl (by decide +kernel) (by decide +kernel) hP0 hD0 va_S.rf wS_00 (by omega) (by show 0 + 6 ≤ 7293034; omega) (fun q0 H1 hP1 hD1 hS1 hw1 => ?_)
  refine lv_dup hx hb d3 rfl ?_
  obtain ⟨I1, m1, r1, i1, g1⟩ := gi_X8_init (mz_zr (fun _ _ => 0) 0) (mz_if (fun _ _ => false) 0)
  have a0 : mz_an (fun _ => 0) s000 q0 0 = q0 := if_pos rfl
  have key1 := lc_init (p := p) (l := l) (e := e) (below := below) (Q := lw_Z below #[Value.ref b] s) (D := D) (H := H1) (locs := []) (cells := 0 + 1) (slots := 0 + mz_nf 8) (ls := ls) (rest := [.ref q0]) (ad := mz_an (fun _ => 0) s000 q0) (σ := mz_nw9 s000 (mz_nf 8)) (σ1 := gS 153 (6 + 18712) I1 m1) (k := 281) (x := 44) (y := 1027) (t := 8) (o := 0) (pc := 4) C0 hCx (by decide +kernel) (by omega) (by show 0 < 1; omega) rfl (r1 6) (by decide +kernel) hl.1 (by simp [Value.category]) hP1 hD1 hS1 hw1 (by show 0 + 1 + (153 - 1) ≤ 601024; omega) (by show 0 + 6 + (6 + 18712 - 6) ≤ 7293034; omega) ?_
  · rw [a0] at key1
    exact key1
  intro ad1 H2 locs2 e1 hP2 hD2 hS2 hw2
  have b0 : ad1 0 = q0 := (e1 0 (by show 0 < 1; omega)).trans a0
  refine lv_astore_n (lv' := [(1, .ref q0), (0, .ref b)]) hx hb d7 rfl hl (by decide) rfl (fun ls2 hl2 => ?_)
  refine lc_new (a := 9) (x := 45) (pl := 6100) C0 hCx (by omega) rfl (by decide +kernel) (by decide +kernel) hP2 hD2 hS2 hw2 (by show 0 + 1 + (153 - 1) + 1 ≤ 601024; omega) (by show 0 + 6 + (6 + 18712 - 6) + 27 ≤ 7293034; omega) (fun q9 H3 hP3 hD3 hS3 hw3 => ?_)
  refine lv_dup hx hb d11 rfl ?_
  obtain ⟨I2, m2, r2, j1, j2, j3, j4, j5, j6, j7⟩ := gi_X9_init (mz_zr m1 153) (mz_if I1 153) (fun j => if_pos rfl)
  have a9 : mz_an ad1 (gS 153 (6 + 18712) I1 m1) q9 153 = q9 := if_pos rfl
  have key2 := lc_init (p := p) (l := l) (e := e) (below := below) (Q := lw_Z below #[Value.ref b] s) (D := D) (H := H3) (locs := locs2) (cells := 0 + 1 + (153 - 1) + 1) (slots := 0 + mz_nf 8 + (6 + 18712 - 6) + mz_nf 9) (ls := ls2) (rest := [.ref q9]) (ad := mz_an ad1 (gS 153 (6 + 18712) I1 m1) q9) (σ := mz_nw9 (gS 153 (6 + 18712) I1 m1) (mz_nf 9)) (σ1 := gS 167 (6 + 18712 + 27 + 20612) I2 m2) (k := 159) (x := 47) (y := 6102) (t := 9) (o := 153) (pc := 12) C0 hCx (by decide +kernel) (by omega) (by show 153 < 154; omega) rfl (r2 (6 + 18712 + 27)) (by decide +kernel) hl2.1 (by simp [Value.category]) hP3 hD3 hS3 hw3 (by show 0 + 1 + (153 - 1) + 1 + (167 - 154) ≤ 601024; omega) (by show 0 + 6 + (6 + 18712 - 6) + 27 + (6 + 18712 + 27 + 20612 - (6 + 18712 + 27)) ≤ 7293034; omega) ?_
  · rw [a9] at key2
    exact key2
  intro ad2 H4 locs4 e2 hP4 hD4 hS4 hw4
  have c0 : ad2 0 = q0 := ((e2 0 (by show 0 < 154; omega)).trans (if_neg (by show ¬ 0 = 153; omega))).trans b0
  have c9 : ad2 153 = q9 := (e2 153 (by show 153 < 154; omega)).trans a9
  have n8 : mz_nf 8 = 6 := rfl
  have n9 : mz_nf 9 = 27 := rfl
  refine W.widen (k := 167) (n := 39357) (by show 0 + 1 + (153 - 1) + 1 + (167 - (153 + 1)) ≤ 167; omega) (by show 0 + mz_nf 8 + (6 + 18712 - 6) + mz_nf 9 + (6 + 18712 + 27 + 20612 - (6 + 18712 + mz_nf 9)) ≤ 39357; rw [n8, n9]; omega) ?_
  refine lv_astore_n (lv' := [(2, .ref q9), (1, .ref q0), (0, .ref b)]) hx hb d15 rfl hl2 (by decide) rfl (fun ls3 hl3 => ?_)
  refine lv_iconst hx hb d16 rfl ?_
  have hall : ∀ o k, o < 167 → riR o k → I2 o k = true := by
    intro o k ho hr
    have A := riR_A ho hr
    have lo : ∀ a k, a < 153 → I2 a k = I1 a k := fun a k h => by rw [j1 a k h]; exact if_o (by omega)
    obtain ⟨x1, x2, x3, x4, x5, x6, x7, x8, x9⟩ := i1
    simp only [riA, Bool.or_eq_true, Bool.and_eq_true, beq_iff_eq, decide_eq_true_eq] at A
    rcases A with ((((((((⟨rfl, h⟩ | ⟨rfl, h⟩) | h) | h) | ⟨rfl, h⟩) | h) | h) | ⟨rfl, h⟩) | ⟨rfl, h⟩) | ⟨rfl, h⟩
    · rw [lo _ _ (by omega)]; exact x1 k h
    · rw [lo _ _ (by omega)]
      rcases (show k = 0 ∨ k = 1 by omega) with rfl | rfl
      · exact x2.1
      · exact x2.2
    · exact riT_ok (iTo_congr (fun a k h1 h2 => lo a k (by omega)) x3) h
    · exact riW_ok (iWo_congr (fun a k h1 h2 => lo a k (by omega)) x4) h
    · rw [lo _ _ (by omega)]
      rcases (show k = 0 ∨ k = 1 by omega) with rfl | rfl
      · exact x5.1
      · exact x5.2
    · exact riW_ok (iWo_congr (fun a k h1 h2 => lo a k (by omega)) x6) h
    · exact riW_ok (iWo_congr (fun a k h1 h2 => lo a k (by omega)) x7) h
    · rw [lo _ _ (by omega)]; exact x8 k h
    · rw [lo _ _ (by omega)]; exact x9 k h
    · refine j3 k ?_
      simp only [riM, Bool.or_eq_true, beq_iff_eq] at h
      omega
  rw [ws_fu hall] at hP4 hD4
  have hw5 := wS_fu hall hw4
  refine va_newa (ty := .long) (tys := []) (N' := 1) (a0 := (1, .inr (.inl (fun _ => 0)))) hx hb (hts _ (lw_pl_ok (y := 8175) (by decide +kernel))) rfl (hCx.1.sub [] rfl) hP4 hD4 hS4 (fun _ h => h) (fun cA => rfl) (by decide) (by decide) (by decide) (by show 167 + 1 ≤ 601024; omega) (by show 39357 + 1 ≤ 7293034; omega) d17 (fun qo cL H5 hK5 hP5 hD5 hS5 => ?_)
  obtain ⟨p1, p2⟩ := vp_app hP5
  have d1 := vd_snoc hD5
  have hqo : s.heap.size ≤ qo := by
    have := hD5.2 (mz_ws ad2 cy (mz_fu m2)).length (qo, .inl (cL, (1, .inr (.inl (fun _ => 0))))) (by rw [List.getElem?_append_right (Nat.le_refl _), Nat.sub_self]; rfl)
    exact this
  refine lv_astore_n (lv' := [(3, .ref qo), (2, .ref q9), (1, .ref q0), (0, .ref b)]) hx hb d19 rfl hl3 (by decide) rfl (fun ls4 hl4 => ?_)
  refine lv_iconst (v := 0) hx hb d20 (by decide) ?_
  refine lv_istore (lv' := [(4, .int 0), (3, .ref qo), (2, .ref q9), (1, .ref q0), (0, .ref b)]) hx hb d21 hl4 (by decide) rfl (fun ls5 hl5 => ?_)
  have hR : Rel m2 := by
    obtain ⟨y1, y2, y3, y4, y5, y6, y7, y8, y9⟩ := g1
    have lo : ∀ a, a < 153 → m2 a = m1 a := fun a h => by rw [j2 a h]; funext j; exact zr_o (by omega)
    refine Rel_0 ?_ (ctN_congr (fun a h1 h2 => lo a (by omega)) y2) (cWo_congr (fun a h1 h2 => lo a (by omega)) y3) (cWo_congr (fun a h1 h2 => lo a (by omega)) y4) (cWo_congr (fun a h1 h2 => lo a (by omega)) y5) ?_ ?_ ?_ ?_ j4 j5 j6 j7
    · rw [lo 1 (by omega)]; exact y1
    · rw [lo 139 (by omega)]; exact y6
    · rw [lo 145 (by omega)]; exact y7
    · rw [lo 146 (by omega)]; exact y8
    · rw [lo 152 (by omega)]; exact y9
  have k := lc_loop (below := below) (e := e) (qo := qo) (cL := cL) hl0 hL C0 ⟨hCx, hT, hK5⟩ 514 0 (by omega) (by omega) ad2 (fun _ => 0) m2 H5 locs4 ls5 ⟨p1, d1, p2, hS5, hw5, hqo⟩ hR (by rw [c0, c9]; exact lv_sub hl5 [4, 3, 2, 1, 0] rfl)
  exact k
end Start
