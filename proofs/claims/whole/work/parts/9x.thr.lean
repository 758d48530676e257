/-! The methods of the class that throw. -/
section Thr
variable {l : Launch} {D : va_G} {cy : Nat → ClassId} {sK sV : Nat → Nat} {vF : Value} {β : Nat → Prop} {ad : Nat → Nat} {M : mz_M}
theorem xw_wf8 : mz_wf (mz_fu M) (mz_r 8 0 0) := ⟨show 0 < 167 by omega, rfl⟩
theorem xw_a1 {x : Int} (hx : mz_w x) : ∀ v ∈ [mz_r 8 0 0, mz_i x], mz_wf (mz_fu M) v := by
  intro v hv
  simp only [List.mem_cons, List.not_mem_nil, or_false] at hv
  rcases hv with rfl | rfl
  · exact xw_wf8
  · exact hx
theorem xw_a2 {x y : Int} (hx : mz_w x) (hy : mz_w y) : ∀ v ∈ [mz_r 8 0 0, mz_i x, mz_i y], mz_wf (mz_fu M) v := by
  intro v hv
  simp only [List.mem_cons, List.not_mem_nil, or_false] at hv
  rcases hv with rfl | rfl | rfl
  · exact xw_wf8
  · exact hx
  · exact hy
/-- a row of ints as an argument -/
theorem xw_rw {n q : Nat} (h : mz_kd q = (100, n)) (hq : q < 167) : mz_wf (mz_fu M) (mz_r 100 n q) := ⟨hq, h⟩
theorem xw_ok300 : mz_ok 300 = true := by decide +kernel
theorem xw_ok301 : mz_ok 301 = true := by decide +kernel
theorem xw_ok302 : mz_ok 302 = true := by decide +kernel
theorem xw_ok303 : mz_ok 303 = true := by decide +kernel
theorem xw_ok304 : mz_ok 304 = true := by decide +kernel
theorem xw_ok305 : mz_ok 305 = true := by decide +kernel
theorem xw_ok306 : mz_ok 306 = true := by decide +kernel
theorem xw_ok307 : mz_ok 307 = true := by decide +kernel
theorem xw_ok308 : mz_ok 308 = true := by decide +kernel
theorem xw_ok309 : mz_ok 309 = true := by decide +kernel
theorem xw_ok310 : mz_ok 310 = true := by decide +kernel
theorem xw_ok311 : mz_ok 311 = true := by decide +kernel
set_option maxRecDepth 20000 in
theorem xw_adv0 (hl : l.stackTraces = false) (hS : mz_wS (mz_fu M)) {x : Int} (hx : mz_w x) (h : ¬ (0 ≤ x ∧ x ≤ 1440)) : xw_Met l D cy sK sV vF β 300 xw_IAE ad [mz_r 8 0 0, mz_i x] M none M := by
  refine xw_met xw_ok300 rfl hS (xw_a1 hx) ?_
  intro p e R s m args below meth c hF hR hT hE
  refine xw_1 hF (show mz_ch0 300 0 1 1 0 0 0 0 = true by decide +kernel) rfl ?_
  refine xw_0 hF (show mz_ch0 300 1 0 0 0 0 0 0 = true by decide +kernel) ?_
  refine xw_0 hF (show mz_ch0 300 2 0 2 1440 0 0 0 = true by decide +kernel) ?_
  refine xw_49 hR hF (show mz_ch1 300 3 49 33 8 3 45 2160 = true by decide +kernel) [mz_i x, mz_i 0, mz_i 1440] [] rfl (by decide) (by decide) (sp_within M x 0 1440) ?_
  refine xw_27 hF (show mz_ch0 300 4 27 10 13 0 0 0 = true by decide +kernel) (fun _ => ?_) (fun q => absurd (if_neg h) q)
  exact xw_site (cls := xw_IAE) (text := "minutes is out of range") (ik := 81) (is := 83) (ic := 85) (i1 := 7) (n := 2) (j := 7) (pk := 5165) (pi := 1021) (b1 := Bundle.six) (ps := xw_psA) (pc := 11) hF hE hT hl hR (by decide +kernel) (by decide +kernel) (by decide +kernel) (by decide +kernel) (by decide +kernel) (by decide +kernel) (by decide +kernel) (by decide +kernel) rfl xw_okA xw_gdA rfl (by decide +kernel) (by decide +kernel) (Or.inl ⟨rfl, by decide +kernel⟩) (by decide +kernel) (by decide +kernel)
set_option maxRecDepth 20000 in
theorem xw_adv1 (hl : l.stackTraces = false) (hS : mz_wS (mz_fu M)) {x : Int} (hx : mz_w x) (h : 0 ≤ x ∧ x ≤ 1440) (h3 : 0 ≤ M 18 3 ∧ M 18 3 ≤ 100000) (h2 : 10079 < M 18 3 + x) : xw_Met l D cy sK sV vF β 300 xw_IAE ad [mz_r 8 0 0, mz_i x] M (some (-4)) M := by
  refine xw_met xw_ok300 rfl hS (xw_a1 hx) ?_
  intro p e R s m args below meth c hF hR hT hE
  refine xw_1 hF (show mz_ch0 300 0 1 1 0 0 0 0 = true by decide +kernel) rfl ?_
  refine xw_0 hF (show mz_ch0 300 1 0 0 0 0 0 0 = true by decide +kernel) ?_
  refine xw_0 hF (show mz_ch0 300 2 0 2 1440 0 0 0 = true by decide +kernel) ?_
  refine xw_49 hR hF (show mz_ch1 300 3 49 33 8 3 45 2160 = true by decide +kernel) [mz_i x, mz_i 0, mz_i 1440] [] rfl (by decide) (by decide) (sp_within M x 0 1440) ?_
  refine xw_27 hF (show mz_ch0 300 4 27 10 13 0 0 0 = true by decide +kernel) (fun q => absurd q (by rw [if_pos h]; omega)) (fun _ => ?_)
  refine xw_2 hF (show mz_ch0 300 10 2 0 0 0 0 0 = true by decide +kernel) rfl ?_
  refine xw_37 hF (show mz_ch1 300 11 37 1 0 8 19 2138 = true by decide +kernel) rfl ?_
  refine xw_36 hF (show mz_ch1 300 12 36 3 0 6 88 2045 = true by decide +kernel) ?_
  refine xw_1 hF (show mz_ch0 300 13 1 1 0 0 0 0 = true by decide +kernel) rfl ?_
  refine xw_6 hF (show mz_ch0 300 14 6 0 0 0 0 0 = true by decide +kernel) (by show mz_w (M 18 3 + x); unfold mz_w; omega) ?_
  refine xw_0 hF (show mz_ch0 300 15 0 2 10079 0 0 0 = true by decide +kernel) ?_
  refine xw_25 hF (show mz_ch0 300 16 25 19 6 0 0 0 = true by decide +kernel) (fun q => absurd q (by show ¬ M 18 3 + x ≤ 10079; omega)) (fun _ => ?_)
  refine xw_0 hF (show mz_ch0 300 17 0 1 (-4) 0 0 0 = true by decide +kernel) ?_
  exact xw_55 hF (by decide +kernel) rfl
set_option maxRecDepth 20000 in
theorem xw_adv2 (hl : l.stackTraces = false) (hS : mz_wS (mz_fu M)) {x : Int} (hx : mz_w x) (h : 0 ≤ x ∧ x ≤ 1440) (h3 : 0 ≤ M 18 3 ∧ M 18 3 ≤ 100000) (h2 : ¬ 10079 < M 18 3 + x) : xw_Met l D cy sK sV vF β 300 xw_IAE ad [mz_r 8 0 0, mz_i x] M (some (mz_up M 18 3 (M 18 3 + x) 18 3)) (mz_up M 18 3 (M 18 3 + x)) := by
  refine xw_met xw_ok300 rfl hS (xw_a1 hx) ?_
  intro p e R s m args below meth c hF hR hT hE
  refine xw_1 hF (show mz_ch0 300 0 1 1 0 0 0 0 = true by decide +kernel) rfl ?_
  refine xw_0 hF (show mz_ch0 300 1 0 0 0 0 0 0 = true by decide +kernel) ?_
  refine xw_0 hF (show mz_ch0 300 2 0 2 1440 0 0 0 = true by decide +kernel) ?_
  refine xw_49 hR hF (show mz_ch1 300 3 49 33 8 3 45 2160 = true by decide +kernel) [mz_i x, mz_i 0, mz_i 1440] [] rfl (by decide) (by decide) (sp_within M x 0 1440) ?_
  refine xw_27 hF (show mz_ch0 300 4 27 10 13 0 0 0 = true by decide +kernel) (fun q => absurd q (by rw [if_pos h]; omega)) (fun _ => ?_)
  refine xw_2 hF (show mz_ch0 300 10 2 0 0 0 0 0 = true by decide +kernel) rfl ?_
  refine xw_37 hF (show mz_ch1 300 11 37 1 0 8 19 2138 = true by decide +kernel) rfl ?_
  refine xw_36 hF (show mz_ch1 300 12 36 3 0 6 88 2045 = true by decide +kernel) ?_
  refine xw_1 hF (show mz_ch0 300 13 1 1 0 0 0 0 = true by decide +kernel) rfl ?_
  refine xw_6 hF (show mz_ch0 300 14 6 0 0 0 0 0 = true by decide +kernel) (by show mz_w (M 18 3 + x); unfold mz_w; omega) ?_
  refine xw_0 hF (show mz_ch0 300 15 0 2 10079 0 0 0 = true by decide +kernel) ?_
  refine xw_25 hF (show mz_ch0 300 16 25 19 6 0 0 0 = true by decide +kernel) (fun _ => ?_) (fun q => absurd (show M 18 3 + x ≤ 10079 by omega) q)
  refine xw_2 hF (show mz_ch0 300 19 2 0 0 0 0 0 = true by decide +kernel) rfl ?_
  refine xw_37 hF (show mz_ch1 300 20 37 1 0 8 19 2138 = true by decide +kernel) rfl ?_
  refine xw_18 hF (show mz_ch0 300 21 18 0 0 0 0 0 = true by decide +kernel) ?_
  refine xw_36 hF (show mz_ch1 300 22 36 3 0 6 88 2045 = true by decide +kernel) ?_
  refine xw_1 hF (show mz_ch0 300 23 1 1 0 0 0 0 = true by decide +kernel) rfl ?_
  refine xw_6 hF (show mz_ch0 300 24 6 0 0 0 0 0 = true by decide +kernel) (by show mz_w (M 18 3 + x); unfold mz_w; omega) ?_
  refine xw_38 hF (show mz_ch1 300 25 38 3 0 6 88 2045 = true by decide +kernel) ?_
  refine xw_2 hF (show mz_ch0 300 26 2 0 0 0 0 0 = true by decide +kernel) rfl ?_
  refine xw_37 hF (show mz_ch1 300 27 37 1 0 8 19 2138 = true by decide +kernel) rfl ?_
  refine xw_36 hF (show mz_ch1 300 28 36 3 0 6 88 2045 = true by decide +kernel) ?_
  exact xw_55 hF (by decide +kernel) rfl
set_option maxRecDepth 20000 in
theorem xw_log0 (hl : l.stackTraces = false) (hS : mz_wS (mz_fu M)) {x : Int} {q : Nat} (hx : mz_w x) (hk : mz_kd q = (100, 400)) (hq : q < 167) (h : ¬ (0 ≤ x ∧ x < M 35 0)) : xw_Met l D cy sK sV vF β 302 xw_IOB ad [mz_r 8 0 0, mz_r 100 400 q, mz_i x] M none M := by
  refine xw_met xw_ok302 rfl hS (by intro v hv; simp only [List.mem_cons, List.not_mem_nil, or_false] at hv; rcases hv with rfl | rfl | rfl; exact xw_wf8; exact xw_rw hk hq; exact hx) ?_
  intro p e R s m args below meth c hF hR hT hE
  refine xw_2 hF (show mz_ch0 302 0 2 0 0 0 0 0 = true by decide +kernel) rfl ?_
  refine xw_37 hF (show mz_ch1 302 1 37 1 0 8 19 2138 = true by decide +kernel) rfl ?_
  refine xw_37 hF (show mz_ch1 302 2 37 2 0 6 107 2042 = true by decide +kernel) rfl ?_
  refine xw_1 hF (show mz_ch0 302 3 1 2 0 0 0 0 = true by decide +kernel) rfl ?_
  refine xw_50 hR hF (show mz_ch1 302 4 50 11 1 2 242 6005 = true by decide +kernel) [mz_r 1 0 35, mz_i x] [] rfl rfl (by decide) (by decide) (sp_lhas M 35 x) ?_
  refine xw_27 hF (show mz_ch0 302 5 27 11 14 0 0 0 = true by decide +kernel) (fun _ => ?_) (fun q => absurd (if_neg h) q)
  exact xw_site (cls := xw_IOB) (text := "there is no such log entry") (ik := 273) (is := 275) (ic := 277) (i1 := 7) (n := 3) (j := 9) (pk := 6044) (pi := 1024) (b1 := Bundle.six) (ps := xw_psI) (pc := 14) hF hE hT hl hR (by decide +kernel) (by decide +kernel) (by decide +kernel) (by decide +kernel) (by decide +kernel) (by decide +kernel) (by decide +kernel) (by decide +kernel) rfl xw_okI xw_gdI rfl (by decide +kernel) (by decide +kernel) (Or.inr ⟨rfl, by decide +kernel⟩) (by decide +kernel) (by decide +kernel)
set_option maxRecDepth 20000 in
theorem xw_log1 (hl : l.stackTraces = false) (hS : mz_wS (mz_fu M)) {x : Int} {q : Nat} (hx : mz_w x) (hk : mz_kd q = (100, 400)) (hq : q < 167) (h : 0 ≤ x ∧ x < M 35 0) (h400 : M 35 0 ≤ 400) : xw_Met l D cy sK sV vF β 302 xw_IOB ad [mz_r 8 0 0, mz_r 100 400 q, mz_i x] M (some (if 0 ≤ x ∧ x < (400 : Nat) then M q x.toNat else 0)) M := by
  refine xw_met xw_ok302 rfl hS (by intro v hv; simp only [List.mem_cons, List.not_mem_nil, or_false] at hv; rcases hv with rfl | rfl | rfl; exact xw_wf8; exact xw_rw hk hq; exact hx) ?_
  intro p e R s m args below meth c hF hR hT hE
  refine xw_2 hF (show mz_ch0 302 0 2 0 0 0 0 0 = true by decide +kernel) rfl ?_
  refine xw_37 hF (show mz_ch1 302 1 37 1 0 8 19 2138 = true by decide +kernel) rfl ?_
  refine xw_37 hF (show mz_ch1 302 2 37 2 0 6 107 2042 = true by decide +kernel) rfl ?_
  refine xw_1 hF (show mz_ch0 302 3 1 2 0 0 0 0 = true by decide +kernel) rfl ?_
  refine xw_50 hR hF (show mz_ch1 302 4 50 11 1 2 242 6005 = true by decide +kernel) [mz_r 1 0 35, mz_i x] [] rfl rfl (by decide) (by decide) (sp_lhas M 35 x) ?_
  refine xw_27 hF (show mz_ch0 302 5 27 11 14 0 0 0 = true by decide +kernel) (fun q => absurd q (by rw [if_pos h]; omega)) (fun _ => ?_)
  refine xw_2 hF (show mz_ch0 302 11 2 1 0 0 0 0 = true by decide +kernel) rfl ?_
  refine xw_1 hF (show mz_ch0 302 12 1 2 0 0 0 0 = true by decide +kernel) rfl ?_
  refine xw_49 hR hF (show mz_ch1 302 13 49 23 8 2 166 4116 = true by decide +kernel) [mz_r 100 400 q, mz_i x] [] rfl (by decide) (by decide) (sp_at M 400 q x) ?_
  exact xw_55 hF (by decide +kernel) rfl
set_option maxRecDepth 20000 in
theorem xw_trp0 (hl : l.stackTraces = false) (hS : mz_wS (mz_fu M)) {x : Int} {q : Nat} (hx : mz_w x) (hk : mz_kd q = (100, 6)) (hq : q < 167) (h11 : 0 ≤ M 140 11 ∧ M 140 11 ≤ 6) (h : ¬ (0 ≤ x ∧ x ≤ M 140 11 - 1)) : xw_Met l D cy sK sV vF β 303 xw_IOB ad [mz_r 8 0 0, mz_r 100 6 q, mz_i x] M none M := by
  refine xw_met xw_ok303 rfl hS (by intro v hv; simp only [List.mem_cons, List.not_mem_nil, or_false] at hv; rcases hv with rfl | rfl | rfl; exact xw_wf8; exact xw_rw hk hq; exact hx) ?_
  intro p e R s m args below meth c hF hR hT hE
  refine xw_1 hF (show mz_ch0 303 0 1 2 0 0 0 0 = true by decide +kernel) rfl ?_
  refine xw_0 hF (show mz_ch0 303 1 0 0 0 0 0 0 = true by decide +kernel) ?_
  refine xw_2 hF (show mz_ch0 303 2 2 0 0 0 0 0 = true by decide +kernel) rfl ?_
  refine xw_37 hF (show mz_ch1 303 3 37 4 0 8 34 2141 = true by decide +kernel) rfl ?_
  refine xw_36 hF (show mz_ch1 303 4 36 11 0 3 170 2082 = true by decide +kernel) ?_
  refine xw_0 hF (show mz_ch0 303 5 0 0 1 0 0 0 = true by decide +kernel) ?_
  refine xw_7 hF (show mz_ch0 303 6 7 0 0 0 0 0 = true by decide +kernel) (by show mz_w (M 140 11 - 1); unfold mz_w; omega) ?_
  refine xw_49 hR hF (show mz_ch1 303 7 49 33 8 3 45 2160 = true by decide +kernel) [mz_i x, mz_i 0, mz_i (M 140 11 - 1)] [] rfl (by decide) (by decide) (sp_within M x 0 (M 140 11 - 1)) ?_
  refine xw_27 hF (show mz_ch0 303 8 27 14 14 0 0 0 = true by decide +kernel) (fun _ => ?_) (fun q => absurd (if_neg h) q)
  exact xw_site (cls := xw_IOB) (text := "there is no such trip") (ik := 273) (is := 325) (ic := 277) (i1 := 7) (n := 3) (j := 10) (pk := 6044) (pi := 1024) (b1 := Bundle.six) (ps := xw_psI) (pc := 17) hF hE hT hl hR (by decide +kernel) (by decide +kernel) (by decide +kernel) (by decide +kernel) (by decide +kernel) (by decide +kernel) (by decide +kernel) (by decide +kernel) rfl xw_okI xw_gdI rfl (by decide +kernel) (by decide +kernel) (Or.inr ⟨rfl, by decide +kernel⟩) (by decide +kernel) (by decide +kernel)
set_option maxRecDepth 20000 in
theorem xw_trp1 (hl : l.stackTraces = false) (hS : mz_wS (mz_fu M)) {x : Int} {q : Nat} (hx : mz_w x) (hk : mz_kd q = (100, 6)) (hq : q < 167) (h11 : 0 ≤ M 140 11 ∧ M 140 11 ≤ 6) (h : 0 ≤ x ∧ x ≤ M 140 11 - 1) : xw_Met l D cy sK sV vF β 303 xw_IOB ad [mz_r 8 0 0, mz_r 100 6 q, mz_i x] M (some (if 0 ≤ x ∧ x < (6 : Nat) then M q x.toNat else 0)) M := by
  refine xw_met xw_ok303 rfl hS (by intro v hv; simp only [List.mem_cons, List.not_mem_nil, or_false] at hv; rcases hv with rfl | rfl | rfl; exact xw_wf8; exact xw_rw hk hq; exact hx) ?_
  intro p e R s m args below meth c hF hR hT hE
  refine xw_1 hF (show mz_ch0 303 0 1 2 0 0 0 0 = true by decide +kernel) rfl ?_
  refine xw_0 hF (show mz_ch0 303 1 0 0 0 0 0 0 = true by decide +kernel) ?_
  refine xw_2 hF (show mz_ch0 303 2 2 0 0 0 0 0 = true by decide +kernel) rfl ?_
  refine xw_37 hF (show mz_ch1 303 3 37 4 0 8 34 2141 = true by decide +kernel) rfl ?_
  refine xw_36 hF (show mz_ch1 303 4 36 11 0 3 170 2082 = true by decide +kernel) ?_
  refine xw_0 hF (show mz_ch0 303 5 0 0 1 0 0 0 = true by decide +kernel) ?_
  refine xw_7 hF (show mz_ch0 303 6 7 0 0 0 0 0 = true by decide +kernel) (by show mz_w (M 140 11 - 1); unfold mz_w; omega) ?_
  refine xw_49 hR hF (show mz_ch1 303 7 49 33 8 3 45 2160 = true by decide +kernel) [mz_i x, mz_i 0, mz_i (M 140 11 - 1)] [] rfl (by decide) (by decide) (sp_within M x 0 (M 140 11 - 1)) ?_
  refine xw_27 hF (show mz_ch0 303 8 27 14 14 0 0 0 = true by decide +kernel) (fun q => absurd q (by rw [if_pos h]; omega)) (fun _ => ?_)
  refine xw_2 hF (show mz_ch0 303 14 2 1 0 0 0 0 = true by decide +kernel) rfl ?_
  refine xw_1 hF (show mz_ch0 303 15 1 2 0 0 0 0 = true by decide +kernel) rfl ?_
  refine xw_49 hR hF (show mz_ch1 303 16 49 23 8 2 166 4116 = true by decide +kernel) [mz_r 100 6 q, mz_i x] [] rfl (by decide) (by decide) (sp_at M 6 q x) ?_
  exact xw_55 hF (by decide +kernel) rfl
set_option maxRecDepth 20000 in
theorem xw_tik0 (hl : l.stackTraces = false) (hS : mz_wS (mz_fu M)) {x y : Int} {q n : Nat} (hx : mz_w x) (hy : mz_w y) (hk : mz_kd q = (100, 400)) (hq : q < 167) (h0 : M 35 0 = n) (hn : n ≤ 400) (h : ¬ (0 ≤ (opI (-1) (tke (fun i => M (35 + 2) i = 4 ∧ M (35 + 3) i = x) n 0 y)) ∧ (opI (-1) (tke (fun i => M (35 + 2) i = 4 ∧ M (35 + 3) i = x) n 0 y)) < M 35 0)) : xw_Met l D cy sK sV vF β 301 xw_NSE ad [mz_r 8 0 0, mz_r 100 400 q, mz_i x, mz_i y] M none M := by
  refine xw_met xw_ok301 rfl hS (by intro v hv; simp only [List.mem_cons, List.not_mem_nil, or_false] at hv; rcases hv with rfl | rfl | rfl | rfl; exact xw_wf8; exact xw_rw hk hq; exact hx; exact hy) ?_
  intro p e R s m args below meth c hF hR hT hE
  refine xw_2 hF (show mz_ch0 301 0 2 0 0 0 0 0 = true by decide +kernel) rfl ?_
  refine xw_37 hF (show mz_ch1 301 1 37 1 0 8 19 2138 = true by decide +kernel) rfl ?_
  refine xw_37 hF (show mz_ch1 301 2 37 2 0 6 107 2042 = true by decide +kernel) rfl ?_
  refine xw_1 hF (show mz_ch0 301 3 1 2 0 0 0 0 = true by decide +kernel) rfl ?_
  refine xw_1 hF (show mz_ch0 301 4 1 3 0 0 0 0 = true by decide +kernel) rfl ?_
  refine xw_50 hR hF (show mz_ch1 301 5 50 62 1 3 239 6004 = true by decide +kernel) [mz_r 1 0 35, mz_i x, mz_i y] [] rfl rfl (by decide) (by decide) (sp_ticketEntry M (l := 35) (c := x) (x := y) h0 hn) ?_
  generalize (opI (-1) (tke (fun i => M (35 + 2) i = 4 ∧ M (35 + 3) i = x) n 0 y)) = w at h ⊢
  refine xw_3 hF (show mz_ch0 301 6 3 4 0 0 1 0 = true by decide +kernel) ?_
  refine xw_2 hF (show mz_ch0 301 7 2 0 0 0 0 0 = true by decide +kernel) rfl ?_
  refine xw_37 hF (show mz_ch1 301 8 37 1 0 8 19 2138 = true by decide +kernel) rfl ?_
  refine xw_37 hF (show mz_ch1 301 9 37 2 0 6 107 2042 = true by decide +kernel) rfl ?_
  refine xw_1 hF (show mz_ch0 301 10 1 4 0 0 1 0 = true by decide +kernel) rfl ?_
  refine xw_50 hR hF (show mz_ch1 301 11 50 11 1 2 242 6005 = true by decide +kernel) [mz_r 1 0 35, mz_i w] [] rfl rfl (by decide) (by decide) (sp_lhas M 35 w) ?_
  refine xw_27 hF (show mz_ch0 301 12 27 18 13 0 0 0 = true by decide +kernel) (fun _ => ?_) (fun q => absurd (if_neg h) q)
  exact xw_site (cls := xw_NSE) (text := "there is no such ticket") (ik := 243) (is := 245) (ic := 247) (i1 := 13) (n := 2) (j := 8) (pk := 6009) (pi := 1023) (b1 := prog_29_method_4_code) (ps := xw_psN) (pc := 29) hF hE hT hl hR (by decide +kernel) (by decide +kernel) (by decide +kernel) (by decide +kernel) (by decide +kernel) (by decide +kernel) (by decide +kernel) (by decide +kernel) rfl xw_okN xw_gdN rfl (by decide +kernel) (by decide +kernel) (Or.inl ⟨rfl, by decide +kernel⟩) (by decide +kernel) (by decide +kernel)
set_option maxRecDepth 20000 in
theorem xw_tik1 (hl : l.stackTraces = false) (hS : mz_wS (mz_fu M)) {x y : Int} {q n : Nat} (hx : mz_w x) (hy : mz_w y) (hk : mz_kd q = (100, 400)) (hq : q < 167) (h0 : M 35 0 = n) (hn : n ≤ 400) (h : 0 ≤ (opI (-1) (tke (fun i => M (35 + 2) i = 4 ∧ M (35 + 3) i = x) n 0 y)) ∧ (opI (-1) (tke (fun i => M (35 + 2) i = 4 ∧ M (35 + 3) i = x) n 0 y)) < M 35 0) : xw_Met l D cy sK sV vF β 301 xw_NSE ad [mz_r 8 0 0, mz_r 100 400 q, mz_i x, mz_i y] M (some (if 0 ≤ (opI (-1) (tke (fun i => M (35 + 2) i = 4 ∧ M (35 + 3) i = x) n 0 y)) ∧ (opI (-1) (tke (fun i => M (35 + 2) i = 4 ∧ M (35 + 3) i = x) n 0 y)) < (400 : Nat) then M q (opI (-1) (tke (fun i => M (35 + 2) i = 4 ∧ M (35 + 3) i = x) n 0 y)).toNat else 0)) M := by
  refine xw_met xw_ok301 rfl hS (by intro v hv; simp only [List.mem_cons, List.not_mem_nil, or_false] at hv; rcases hv with rfl | rfl | rfl | rfl; exact xw_wf8; exact xw_rw hk hq; exact hx; exact hy) ?_
  intro p e R s m args below meth c hF hR hT hE
  refine xw_2 hF (show mz_ch0 301 0 2 0 0 0 0 0 = true by decide +kernel) rfl ?_
  refine xw_37 hF (show mz_ch1 301 1 37 1 0 8 19 2138 = true by decide +kernel) rfl ?_
  refine xw_37 hF (show mz_ch1 301 2 37 2 0 6 107 2042 = true by decide +kernel) rfl ?_
  refine xw_1 hF (show mz_ch0 301 3 1 2 0 0 0 0 = true by decide +kernel) rfl ?_
  refine xw_1 hF (show mz_ch0 301 4 1 3 0 0 0 0 = true by decide +kernel) rfl ?_
  refine xw_50 hR hF (show mz_ch1 301 5 50 62 1 3 239 6004 = true by decide +kernel) [mz_r 1 0 35, mz_i x, mz_i y] [] rfl rfl (by decide) (by decide) (sp_ticketEntry M (l := 35) (c := x) (x := y) h0 hn) ?_
  generalize (opI (-1) (tke (fun i => M (35 + 2) i = 4 ∧ M (35 + 3) i = x) n 0 y)) = w at h ⊢
  refine xw_3 hF (show mz_ch0 301 6 3 4 0 0 1 0 = true by decide +kernel) ?_
  refine xw_2 hF (show mz_ch0 301 7 2 0 0 0 0 0 = true by decide +kernel) rfl ?_
  refine xw_37 hF (show mz_ch1 301 8 37 1 0 8 19 2138 = true by decide +kernel) rfl ?_
  refine xw_37 hF (show mz_ch1 301 9 37 2 0 6 107 2042 = true by decide +kernel) rfl ?_
  refine xw_1 hF (show mz_ch0 301 10 1 4 0 0 1 0 = true by decide +kernel) rfl ?_
  refine xw_50 hR hF (show mz_ch1 301 11 50 11 1 2 242 6005 = true by decide +kernel) [mz_r 1 0 35, mz_i w] [] rfl rfl (by decide) (by decide) (sp_lhas M 35 w) ?_
  refine xw_27 hF (show mz_ch0 301 12 27 18 13 0 0 0 = true by decide +kernel) (fun q => absurd q (by rw [if_pos h]; omega)) (fun _ => ?_)
  refine xw_2 hF (show mz_ch0 301 18 2 1 0 0 0 0 = true by decide +kernel) rfl ?_
  refine xw_1 hF (show mz_ch0 301 19 1 4 0 0 1 0 = true by decide +kernel) rfl ?_
  refine xw_49 hR hF (show mz_ch1 301 20 49 23 8 2 166 4116 = true by decide +kernel) [mz_r 100 400 q, mz_i w] [] rfl (by decide) (by decide) (sp_at M 400 q w) ?_
  exact xw_55 hF (by decide +kernel) rfl
set_option maxRecDepth 20000 in
theorem xw_tkA (hl : l.stackTraces = false) (hS : mz_wS (mz_fu M)) {x y : Int} (hx : mz_w x) (hy : mz_w y) {res : Option Int} {M1 : mz_M} (h : mz_wS (mz_fu M) → ∀ ad : Nat → Nat, xw_Met l D cy sK sV vF β 301 xw_NSE ad [mz_r 8 0 0, mz_r 100 400 39, mz_i x, mz_i y] M res M1) : xw_Met l D cy sK sV vF β 304 xw_NSE ad [mz_r 8 0 0, mz_i x, mz_i y] M res M1 := by
  refine xw_met xw_ok304 rfl hS (xw_a2 hx hy) ?_
  intro p e R s m args below meth c hF hR hT hE
  refine xw_2 hF (show mz_ch0 304 0 2 0 0 0 0 0 = true by decide +kernel) rfl ?_
  refine xw_2 hF (show mz_ch0 304 1 2 0 0 0 0 0 = true by decide +kernel) rfl ?_
  refine xw_37 hF (show mz_ch1 304 2 37 1 0 8 19 2138 = true by decide +kernel) rfl ?_
  refine xw_37 hF (show mz_ch1 304 3 37 2 0 6 107 2042 = true by decide +kernel) rfl ?_
  refine xw_37 hF (show mz_ch1 304 4 37 4 0 1 229 1195 = true by decide +kernel) rfl ?_
  refine xw_1 hF (show mz_ch0 304 5 1 1 0 0 0 0 = true by decide +kernel) rfl ?_
  refine xw_1 hF (show mz_ch0 304 6 1 2 0 0 0 0 = true by decide +kernel) rfl ?_
  exact xw_tail (kc := 301) (x := 232) (yl := 6000) (as := [mz_r 100 400 39, mz_i x, mz_i y]) (pc := 13) hF hE hT hR rfl h xw_ok301 rfl rfl (by decide +kernel) (by decide +kernel) (by decide +kernel) (by decide +kernel) rfl (by decide +kernel) (by decide +kernel)
set_option maxRecDepth 20000 in
theorem xw_tkM (hl : l.stackTraces = false) (hS : mz_wS (mz_fu M)) {x y : Int} (hx : mz_w x) (hy : mz_w y) {res : Option Int} {M1 : mz_M} (h : mz_wS (mz_fu M) → ∀ ad : Nat → Nat, xw_Met l D cy sK sV vF β 301 xw_NSE ad [mz_r 8 0 0, mz_r 100 400 36, mz_i x, mz_i y] M res M1) : xw_Met l D cy sK sV vF β 305 xw_NSE ad [mz_r 8 0 0, mz_i x, mz_i y] M res M1 := by
  refine xw_met xw_ok305 rfl hS (xw_a2 hx hy) ?_
  intro p e R s m args below meth c hF hR hT hE
  refine xw_2 hF (show mz_ch0 305 0 2 0 0 0 0 0 = true by decide +kernel) rfl ?_
  refine xw_2 hF (show mz_ch0 305 1 2 0 0 0 0 0 = true by decide +kernel) rfl ?_
  refine xw_37 hF (show mz_ch1 305 2 37 1 0 8 19 2138 = true by decide +kernel) rfl ?_
  refine xw_37 hF (show mz_ch1 305 3 37 2 0 6 107 2042 = true by decide +kernel) rfl ?_
  refine xw_37 hF (show mz_ch1 305 4 37 1 0 1 236 1188 = true by decide +kernel) rfl ?_
  refine xw_1 hF (show mz_ch0 305 5 1 1 0 0 0 0 = true by decide +kernel) rfl ?_
  refine xw_1 hF (show mz_ch0 305 6 1 2 0 0 0 0 = true by decide +kernel) rfl ?_
  exact xw_tail (kc := 301) (x := 232) (yl := 6000) (as := [mz_r 100 400 36, mz_i x, mz_i y]) (pc := 13) hF hE hT hR rfl h xw_ok301 rfl rfl (by decide +kernel) (by decide +kernel) (by decide +kernel) (by decide +kernel) rfl (by decide +kernel) (by decide +kernel)
set_option maxRecDepth 20000 in
theorem xw_lgM (hl : l.stackTraces = false) (hS : mz_wS (mz_fu M)) {x : Int} (hx : mz_w x) {res : Option Int} {M1 : mz_M} (h : mz_wS (mz_fu M) → ∀ ad : Nat → Nat, xw_Met l D cy sK sV vF β 302 xw_IOB ad [mz_r 8 0 0, mz_r 100 400 36, mz_i x] M res M1) : xw_Met l D cy sK sV vF β 306 xw_IOB ad [mz_r 8 0 0, mz_i x] M res M1 := by
  refine xw_met xw_ok306 rfl hS (xw_a1 hx) ?_
  intro p e R s m args below meth c hF hR hT hE
  refine xw_2 hF (show mz_ch0 306 0 2 0 0 0 0 0 = true by decide +kernel) rfl ?_
  refine xw_2 hF (show mz_ch0 306 1 2 0 0 0 0 0 = true by decide +kernel) rfl ?_
  refine xw_37 hF (show mz_ch1 306 2 37 1 0 8 19 2138 = true by decide +kernel) rfl ?_
  refine xw_37 hF (show mz_ch1 306 3 37 2 0 6 107 2042 = true by decide +kernel) rfl ?_
  refine xw_37 hF (show mz_ch1 306 4 37 1 0 1 236 1188 = true by decide +kernel) rfl ?_
  refine xw_1 hF (show mz_ch0 306 5 1 1 0 0 0 0 = true by decide +kernel) rfl ?_
  exact xw_tail (kc := 302) (x := 264) (yl := 6040) (as := [mz_r 100 400 36, mz_i x]) (pc := 12) hF hE hT hR rfl h xw_ok302 rfl rfl (by decide +kernel) (by decide +kernel) (by decide +kernel) (by decide +kernel) rfl (by decide +kernel) (by decide +kernel)
set_option maxRecDepth 20000 in
theorem xw_lgK (hl : l.stackTraces = false) (hS : mz_wS (mz_fu M)) {x : Int} (hx : mz_w x) {res : Option Int} {M1 : mz_M} (h : mz_wS (mz_fu M) → ∀ ad : Nat → Nat, xw_Met l D cy sK sV vF β 302 xw_IOB ad [mz_r 8 0 0, mz_r 100 400 37, mz_i x] M res M1) : xw_Met l D cy sK sV vF β 307 xw_IOB ad [mz_r 8 0 0, mz_i x] M res M1 := by
  refine xw_met xw_ok307 rfl hS (xw_a1 hx) ?_
  intro p e R s m args below meth c hF hR hT hE
  refine xw_2 hF (show mz_ch0 307 0 2 0 0 0 0 0 = true by decide +kernel) rfl ?_
  refine xw_2 hF (show mz_ch0 307 1 2 0 0 0 0 0 = true by decide +kernel) rfl ?_
  refine xw_37 hF (show mz_ch1 307 2 37 1 0 8 19 2138 = true by decide +kernel) rfl ?_
  refine xw_37 hF (show mz_ch1 307 3 37 2 0 6 107 2042 = true by decide +kernel) rfl ?_
  refine xw_37 hF (show mz_ch1 307 4 37 2 0 1 267 1190 = true by decide +kernel) rfl ?_
  refine xw_1 hF (show mz_ch0 307 5 1 1 0 0 0 0 = true by decide +kernel) rfl ?_
  exact xw_tail (kc := 302) (x := 264) (yl := 6040) (as := [mz_r 100 400 37, mz_i x]) (pc := 12) hF hE hT hR rfl h xw_ok302 rfl rfl (by decide +kernel) (by decide +kernel) (by decide +kernel) (by decide +kernel) rfl (by decide +kernel) (by decide +kernel)
set_option maxRecDepth 20000 in
theorem xw_lgC (hl : l.stackTraces = false) (hS : mz_wS (mz_fu M)) {x : Int} (hx : mz_w x) {res : Option Int} {M1 : mz_M} (h : mz_wS (mz_fu M) → ∀ ad : Nat → Nat, xw_Met l D cy sK sV vF β 302 xw_IOB ad [mz_r 8 0 0, mz_r 100 400 38, mz_i x] M res M1) : xw_Met l D cy sK sV vF β 308 xw_IOB ad [mz_r 8 0 0, mz_i x] M res M1 := by
  refine xw_met xw_ok308 rfl hS (xw_a1 hx) ?_
  intro p e R s m args below meth c hF hR hT hE
  refine xw_2 hF (show mz_ch0 308 0 2 0 0 0 0 0 = true by decide +kernel) rfl ?_
  refine xw_2 hF (show mz_ch0 308 1 2 0 0 0 0 0 = true by decide +kernel) rfl ?_
  refine xw_37 hF (show mz_ch1 308 2 37 1 0 8 19 2138 = true by decide +kernel) rfl ?_
  refine xw_37 hF (show mz_ch1 308 3 37 2 0 6 107 2042 = true by decide +kernel) rfl ?_
  refine xw_37 hF (show mz_ch1 308 4 37 3 0 1 270 1192 = true by decide +kernel) rfl ?_
  refine xw_1 hF (show mz_ch0 308 5 1 1 0 0 0 0 = true by decide +kernel) rfl ?_
  exact xw_tail (kc := 302) (x := 264) (yl := 6040) (as := [mz_r 100 400 38, mz_i x]) (pc := 12) hF hE hT hR rfl h xw_ok302 rfl rfl (by decide +kernel) (by decide +kernel) (by decide +kernel) (by decide +kernel) rfl (by decide +kernel) (by decide +kernel)
set_option maxRecDepth 20000 in
theorem xw_lgA (hl : l.stackTraces = false) (hS : mz_wS (mz_fu M)) {x : Int} (hx : mz_w x) {res : Option Int} {M1 : mz_M} (h : mz_wS (mz_fu M) → ∀ ad : Nat → Nat, xw_Met l D cy sK sV vF β 302 xw_IOB ad [mz_r 8 0 0, mz_r 100 400 39, mz_i x] M res M1) : xw_Met l D cy sK sV vF β 309 xw_IOB ad [mz_r 8 0 0, mz_i x] M res M1 := by
  refine xw_met xw_ok309 rfl hS (xw_a1 hx) ?_
  intro p e R s m args below meth c hF hR hT hE
  refine xw_2 hF (show mz_ch0 309 0 2 0 0 0 0 0 = true by decide +kernel) rfl ?_
  refine xw_2 hF (show mz_ch0 309 1 2 0 0 0 0 0 = true by decide +kernel) rfl ?_
  refine xw_37 hF (show mz_ch1 309 2 37 1 0 8 19 2138 = true by decide +kernel) rfl ?_
  refine xw_37 hF (show mz_ch1 309 3 37 2 0 6 107 2042 = true by decide +kernel) rfl ?_
  refine xw_37 hF (show mz_ch1 309 4 37 4 0 1 229 1195 = true by decide +kernel) rfl ?_
  refine xw_1 hF (show mz_ch0 309 5 1 1 0 0 0 0 = true by decide +kernel) rfl ?_
  exact xw_tail (kc := 302) (x := 264) (yl := 6040) (as := [mz_r 100 400 39, mz_i x]) (pc := 12) hF hE hT hR rfl h xw_ok302 rfl rfl (by decide +kernel) (by decide +kernel) (by decide +kernel) (by decide +kernel) rfl (by decide +kernel) (by decide +kernel)
set_option maxRecDepth 20000 in
theorem xw_trC (hl : l.stackTraces = false) (hS : mz_wS (mz_fu M)) {x : Int} (hx : mz_w x) {res : Option Int} {M1 M2 : mz_M} (hp : sp 262 [mz_r 3 0 140, mz_r 6 0 18] M none M1) (h : mz_wS (mz_fu M1) → ∀ ad : Nat → Nat, xw_Met l D cy sK sV vF β 303 xw_IOB ad [mz_r 8 0 0, mz_r 100 6 147, mz_i x] M1 res M2) : xw_Met l D cy sK sV vF β 310 xw_IOB ad [mz_r 8 0 0, mz_i x] M res M2 := by
  refine xw_met xw_ok310 rfl hS (xw_a1 hx) ?_
  intro p e R s m args below meth c hF hR hT hE
  refine xw_2 hF (show mz_ch0 310 0 2 0 0 0 0 0 = true by decide +kernel) rfl ?_
  refine xw_37 hF (show mz_ch1 310 1 37 4 0 8 34 2141 = true by decide +kernel) rfl ?_
  refine xw_2 hF (show mz_ch0 310 2 2 0 0 0 0 0 = true by decide +kernel) rfl ?_
  refine xw_37 hF (show mz_ch1 310 3 37 1 0 8 19 2138 = true by decide +kernel) rfl ?_
  refine xw_50v hR hF (show mz_ch1 310 4 50 262 3 2 158 4043 = true by decide +kernel) [mz_r 3 0 140, mz_r 6 0 18] [] rfl rfl (by decide) (by decide) (hp) ?_
  refine xw_2 hF (show mz_ch0 310 5 2 0 0 0 0 0 = true by decide +kernel) rfl ?_
  refine xw_2 hF (show mz_ch0 310 6 2 0 0 0 0 0 = true by decide +kernel) rfl ?_
  refine xw_37 hF (show mz_ch1 310 7 37 4 0 8 34 2141 = true by decide +kernel) rfl ?_
  refine xw_37 hF (show mz_ch1 310 8 37 6 0 3 162 2074 = true by decide +kernel) rfl ?_
  refine xw_1 hF (show mz_ch0 310 9 1 1 0 0 0 0 = true by decide +kernel) rfl ?_
  exact xw_tail (kc := 303) (x := 322) (yl := 6088) (as := [mz_r 100 6 147, mz_i x]) (pc := 20) hF hE hT hR rfl h xw_ok303 rfl rfl (by decide +kernel) (by decide +kernel) (by decide +kernel) (by decide +kernel) rfl (by decide +kernel) (by decide +kernel)
set_option maxRecDepth 20000 in
theorem xw_trP (hl : l.stackTraces = false) (hS : mz_wS (mz_fu M)) {x : Int} (hx : mz_w x) {res : Option Int} {M1 M2 : mz_M} (hp : sp 262 [mz_r 3 0 140, mz_r 6 0 18] M none M1) (h : mz_wS (mz_fu M1) → ∀ ad : Nat → Nat, xw_Met l D cy sK sV vF β 303 xw_IOB ad [mz_r 8 0 0, mz_r 100 6 148, mz_i x] M1 res M2) : xw_Met l D cy sK sV vF β 311 xw_IOB ad [mz_r 8 0 0, mz_i x] M res M2 := by
  refine xw_met xw_ok311 rfl hS (xw_a1 hx) ?_
  intro p e R s m args below meth c hF hR hT hE
  refine xw_2 hF (show mz_ch0 311 0 2 0 0 0 0 0 = true by decide +kernel) rfl ?_
  refine xw_37 hF (show mz_ch1 311 1 37 4 0 8 34 2141 = true by decide +kernel) rfl ?_
  refine xw_2 hF (show mz_ch0 311 2 2 0 0 0 0 0 = true by decide +kernel) rfl ?_
  refine xw_37 hF (show mz_ch1 311 3 37 1 0 8 19 2138 = true by decide +kernel) rfl ?_
  refine xw_50v hR hF (show mz_ch1 311 4 50 262 3 2 158 4043 = true by decide +kernel) [mz_r 3 0 140, mz_r 6 0 18] [] rfl rfl (by decide) (by decide) (hp) ?_
  refine xw_2 hF (show mz_ch0 311 5 2 0 0 0 0 0 = true by decide +kernel) rfl ?_
  refine xw_2 hF (show mz_ch0 311 6 2 0 0 0 0 0 = true by decide +kernel) rfl ?_
  refine xw_37 hF (show mz_ch1 311 7 37 4 0 8 34 2141 = true by decide +kernel) rfl ?_
  refine xw_37 hF (show mz_ch1 311 8 37 7 0 3 176 2076 = true by decide +kernel) rfl ?_
  refine xw_1 hF (show mz_ch0 311 9 1 1 0 0 0 0 = true by decide +kernel) rfl ?_
  exact xw_tail (kc := 303) (x := 322) (yl := 6088) (as := [mz_r 100 6 148, mz_i x]) (pc := 20) hF hE hT hR rfl h xw_ok303 rfl rfl (by decide +kernel) (by decide +kernel) (by decide +kernel) (by decide +kernel) rfl (by decide +kernel) (by decide +kernel)
end Thr
