theorem mz_cdL_len : mz_cdL.length = 300 := by decide +kernel
section Sn7
variable {p : Program} {l : Launch} {e : Env} {R : Room} {s : State} {m : MethodId} {args : Array Value} {below : List Frame} {meth : Method} {c : Code} {D : va_G} {cy : Nat → ClassId} {sK sV : Nat → Nat} {vF : Value} {β : Nat → Prop} {Q : State → Prop} {ade : Nat → Nat} {te se : Nat} {k i a c9 x9 y9 : Nat} {b : Int} {σ σ0 : mz_S} {ls : mz_Ls} {st : List mz_V} {call : Nat → List mz_V → mz_S → (Option mz_V → mz_S → Prop) → Prop} {rt : Option mz_V → mz_S → Prop}
def mz_Q (D : va_G) (cy : Nat → ClassId) (sK sV : Nat → Nat) (vF : Value) (β : Nat → Prop) (ade : Nat → Nat) (te : Nat) (r0 : Option mz_V) (σ0 : mz_S) : Array Value → State → Outcome → State → Prop := fun _ st o t =>
  ∃ ad : Nat → Nat, (∀ q, q < te → ad q = ade q) ∧ o = .returned (r0.map (mz_v ad sK sV vF)) ∧ va_P D vwCl (mz_ws ad cy σ0) t.heap ∧ va_D β (mz_ws ad cy σ0) ∧ va_F β st t ∧ mz_wS σ0 ∧ ∀ v, r0 = some v → mz_wf σ0 v
def mz_Pc (D : va_G) (cy : Nat → ClassId) (sK sV : Nat → Nat) (vF : Value) (β : Nat → Prop) (ad : Nat → Nat) (σ : mz_S) (as : List mz_V) : Array Value → State → Prop := va_Pc (as.map (mz_v ad sK sV vF)) (fun U => va_P D vwCl (mz_ws ad cy σ) U.heap ∧ va_D β (mz_ws ad cy σ) ∧ mz_Cx D cy sK sV vF β U)
def mz_wsk (k : Nat) : List Cond := .code (mz_y k) (mz_b k) (mz_L k) (mz_rt k) :: mz_gw
def mz_rm9 (k : Nat) (σ σ1 : mz_S) : Room := { frames := mz_dep k, cells := σ1.1 - σ.1, slots := σ1.2.1 - σ.2.1, locals := 60 * mz_dep k }
def mz_Met (l : Launch) (D : va_G) (cy : Nat → ClassId) (sK sV : Nat → Nat) (vF : Value) (β : Nat → Prop) (k : Nat) (ad : Nat → Nat) (as : List mz_V) (σ : mz_S) (r1 : Option mz_V) (σ1 : mz_S) : Prop :=
  Met l (mz_y k) (mz_wsk k) (mz_rm9 k σ σ1) (mz_Pc D cy sK sV vF β ad σ as) (mz_Q D cy sK sV vF β ad σ.1 r1 σ1) (σ1.1 - σ.1) (σ1.2.1 - σ.2.1) β
theorem mz_blind {ad : Nat → Nat} {as : List mz_V} : FrameBlind (mz_Pc D cy sK sV vF β ad σ as) := fun _ U _ _ q => ⟨q.1, q.2.1, q.2.2.1, mz_Cx_same (u := U) rfl rfl q.2.2.2⟩
theorem mz_goodk (hk : mz_W (mz_wp k).1 (.code (mz_y k) (mz_b k) (mz_L k) (mz_rt k)) = true) : GoodIn mz_gw (mz_wsk k) := by
  intro w hw
  have hm : w ∈ mz_gw := by
    rcases List.mem_cons.mp hw with rfl | hw
    · exact mz_W_ok hk
    · exact hw
  exact ⟨hm, good_of_word (List.mem_filter.mp hm).2⟩
/-- behind a call -/
theorem mz_after {ad : Nat → Nat} {σ1 : mz_S} {r1 : Option mz_V} {lsA : Array Slot} {H : Heap} {locs : List Loc} {stk : List Value} {aa : Array Value} {pc : Nat} (hH : mz_H s D cy sK sV vF β k ad σ ls st lsA H locs) (h1 : ∀ o, o < te → ad o = ade o) (h2 : te ≤ σ.1) (h3 : se ≤ σ.2.1) (hg : mz_gr σ σ1)
    (hr : va_Run p l e R s m args below meth c H locs (σ.1 - te) (σ.2.1 - se) (σ1.1 - σ.1) (σ1.2.1 - σ.2.1) (F0 m pc lsA stk) (st.map (mz_v ad sK sV vF)) (mz_Q D cy sK sV vF β ad σ.1 r1 σ1 aa) β)
    (hK : mz_K p l e R s m args below meth c D cy sK sV vF β Q ade te se k (i + 1) ls (r1.toList ++ st) σ1) (hp : mz_pc k (i + 1) = pc + 3) :
    W p l e R s m args below meth c H locs (σ.1 - te) (σ.2.1 - se) Q (F0 m pc lsA stk) := by
  intro T hT X
  obtain ⟨v, st₀, t, T', L, e0, X', hL, eh, -, ⟨ad', ha, hv, hP', hD', hFr, hwS', hwf'⟩, hgo⟩ := hr T hT X
  have hv : v = r1.map (mz_v ad' sK sV vF) := Outcome.returned.inj hv
  obtain ⟨q1, q2, q3, q4, q5, q6, q7, q8⟩ := hH
  have hH' : mz_H s D cy sK sV vF β k ad' σ1 ls (r1.toList ++ st) lsA t.heap (locs ++ L) := by
    refine ⟨hP', hD', ⟨?_, fun q a1 a2 => ?_, fun z hz => ?_⟩, hwS', fun w hw => ?_, fun a w hw => mz_wf_mono hg.1 (q6 a w hw), ⟨q7.1, q7.2.1, fun z hz => ?_⟩, q8⟩
    · exact Nat.le_trans q3.1 (by rw [← e0]; exact hFr.1)
    · rw [hFr.2 q (by rw [e0]; exact Nat.lt_of_lt_of_le a1 q3.1) a2, e0]
      exact q3.2.1 q a1 a2
    · rcases List.mem_append.mp hz with hz | hz
      · exact q3.2.2 z hz
      · exact hL z hz
    · rcases List.mem_append.mp hw with hw | hw
      · exact hwf' w (by cases r1 with | none => simp at hw | some x => simp at hw; rw [hw])
      · exact mz_wf_mono hg.1 (q5 w hw)
    · obtain ⟨w, e1, e2⟩ := mz_lv_mem.mp hz
      rw [mz_v_ext ha (q6 _ _ e1)] at e2
      exact q7.2.2 z (mz_lv_mem.mpr ⟨w, e1, e2⟩)
  have hw := hK ad' lsA t.heap (locs ++ L) (fun o ho => by rw [ha o (Nat.lt_of_lt_of_le ho h2)]; exact h1 o ho) (Nat.le_trans h2 hg.1) (Nat.le_trans h3 hg.2) hH'
  have ec : σ.1 - te + (σ1.1 - σ.1) = σ1.1 - te := by have := hg.1; omega
  have es : σ.2.1 - se + (σ1.2.1 - σ.2.1) = σ1.2.1 - se := by have := hg.2; omega
  rw [ec, es] at X'
  obtain ⟨t2, a1, b1⟩ := hw T' eh X'
  refine ⟨t2, hgo t2 ?_, b1⟩
  have estk : (r1.toList ++ st).map (mz_v ad' sK sV vF) = v.toList ++ st.map (mz_v ad sK sV vF) := by
    rw [List.map_append, hv]
    congr 1
    · cases r1 <;> rfl
    · exact List.map_congr_left fun w hw => mz_v_ext ha (q5 w hw)
  rw [hp, estk] at a1
  exact a1
theorem mz_mok_ok (h : mz_ok k = true) : plainName (mz_y k).cls = true ∧ (mz_y k).cls ≠ "java/lang/invoke/MethodHandle" ∧ (mz_y k).cls ≠ "java/lang/invoke/VarHandle" ∧ mz_W (mz_wp k).1 (.code (mz_y k) (mz_b k) (mz_L k) (mz_rt k)) = true ∧ mz_W (mz_wp k).2.2.2 (.initialized (mz_y k).cls) = true ∧ mz_L k ≤ 30 ∧ mz_na k ≤ mz_L k ∧ mz_pc k 0 = 0 ∧
    ((mz_W (mz_wp k).2.1 (.static (mz_y k)) = true ∧ (parseMethodDescriptor (mz_y k).desc).map (fun d => d.parameters.length) = some (mz_na k)) ∨ ((mz_W (mz_wp k).2.1 (.instanceMethod (mz_y k)) = true ∧ 1 ≤ mz_na k) ∧ (parseMethodDescriptor (mz_y k).desc).map (fun d => d.parameters.length) = some (mz_na k - 1))) ∧ mz_all k 0 (mz_cd k) = true := by
  simp only [mz_ok, mz_mok, Bool.and_eq_true, Bool.or_eq_true, decide_eq_true_eq, beq_iff_eq] at h
  obtain ⟨⟨⟨⟨⟨⟨⟨⟨⟨a1, a2⟩, a3⟩, a4⟩, a5⟩, a6⟩, a7⟩, a8⟩, a9⟩, a10⟩ := h
  exact ⟨a1, a2, a3, a4, a5, a6, a7, a8, a9, a10⟩

theorem mz_done {r0 : Option mz_V} {ad : Nat → Nat} {lsA : Array Slot} {H : Heap} {locs : List Loc} (hH : mz_H s D cy sK sV vF β k ad σ0 ls st lsA H locs) (h1 : ∀ o, o < te → ad o = ade o) (hw : ∀ v, r0 = some v → mz_wf σ0 v) {t : State} (ht : t.heap = H) : mz_Q D cy sK sV vF β ade te r0 σ0 args s (.returned (r0.map (mz_v ad sK sV vF))) t :=
  ⟨ad, h1, rfl, by rw [ht]; exact hH.1, hH.2.1, hH.2.2.1.F ht, hH.2.2.2.1, hw⟩
theorem mz_sR {op : Nat} {r0 : Option mz_V} {nx : mz_Ls → List mz_V → mz_S → Prop} (hop : op = 55 ∨ op = 56 ∨ op = 57) (hF : mz_F p R s m args meth c D cy sK sV vF β k) (hc : mz_ch1 k i op a b c9 x9 y9 = true) (h : mz_st1 nx call (fun r σ => r = r0 ∧ σ = σ0) (op, a, b, c9, x9, y9) ls st σ) :
    mz_K p l e R s m args below meth c D cy sK sV vF β (MQ below (mz_Q D cy sK sV vF β ade te r0 σ0) args s (σ0.1 - te) (σ0.2.1 - se) β) ade te se k i ls st σ := by
  obtain ⟨hx, hb, hr, hml, hown, hlk, hnm, hts, hCx, hfr, hlo⟩ := hF
  intro ad lsA H locs h1 h2 h3 hH
  rcases hop with rfl | rfl | rfl
  · rcases st with _ | ⟨v, st⟩
    · exact False.elim h
    rcases v with v | r
    case inr => rcases st with _ | ⟨_, _⟩ <;> exact False.elim h
    rcases st with _ | ⟨_, _⟩
    case cons => exact False.elim h
    have h : (if a = 0 then True else if a = 1 then v = 0 ∨ v = 1 else if a = 2 then -128 ≤ v ∧ v ≤ 127 else 0 ≤ v ∧ v ≤ 65535) ∧ some (.inl v) = r0 ∧ σ = σ0 := h
    obtain ⟨hv, rfl, rfl⟩ := h
    simp only [mz_ch1, Bool.and_eq_true] at hc
    obtain ⟨hc, ht⟩ := hc
    obtain ⟨hd, hp⟩ := mz_D_ok hc
    have hdone : ∀ t : State, t.heap = H → s.WarmedH t.vm → mz_Q D cy sK sV vF β ade te (some (.inl v)) σ args s (.returned (some (.int (Int32.ofInt v)))) t := fun t ht _ => mz_done (r0 := some (.inl v)) hH h1 (fun w hw => by cases hw; exact mz_H_hd hH) ht
    have hnB : -128 ≤ v ∧ v ≤ 127 → narrow .byte (.int (Int32.ofInt v)) = .int (Int32.ofInt v) := fun hv => by
      have := mz_nb hv
      rw [vp_nar_byte] at this
      show Value.int _ = _
      rw [this]
    have hnC : 0 ≤ v ∧ v ≤ 65535 → narrow .char (.int (Int32.ofInt v)) = .int (Int32.ofInt v) := fun hv => by
      have e : Int32.ofInt v = nI v.toNat := by
        rw [show nI v.toNat = Int32.ofNat v.toNat from rfl, mz_nn]
        congr 1
        omega
      rw [e]
      exact (pk_charN (by omega)).1
    match a, ht, hv with
    | 0, ht, hv => exact W.iret (hlocks := hlk) hx hb (by rw [hr]; simpa using ht) hdone hH.2.2.1.2.2 hd
    | 1, ht, hv => exact W.zret (hlocks := hlk) hx hb (by rw [hr]; simpa using ht) (by have hv : v = 0 ∨ v = 1 := hv; rcases hv with rfl | rfl <;> decide) hdone hH.2.2.1.2.2 hd
    | 2, ht, hv => exact W.zret (ty := .byte) (hlocks := hlk) hx hb (by rw [hr]; simpa using ht) (hnB hv) hdone hH.2.2.1.2.2 hd
    | a + 3, ht, hv => exact W.zret (ty := .char) (hlocks := hlk) hx hb (by rw [hr]; simpa using ht) (hnC hv) hdone hH.2.2.1.2.2 hd
  · rcases st with _ | ⟨v, st⟩
    · exact False.elim h
    rcases v with v | r
    case inl => rcases st with _ | ⟨_, _⟩ <;> exact False.elim h
    rcases st with _ | ⟨_, _⟩
    case cons => exact False.elim h
    have h : some (.inr r) = r0 ∧ σ = σ0 := h
    obtain ⟨rfl, rfl⟩ := h
    simp only [mz_ch1, Bool.and_eq_true] at hc
    obtain ⟨hc, ht⟩ := hc
    obtain ⟨hd, hp⟩ := mz_D_ok hc
    have hrt : ∃ n, mz_rt k = some (.object n) := by
      unfold mz_isO at ht
      split at ht
      · exact ⟨_, by assumption⟩
      · cases ht
    obtain ⟨n, hrt⟩ := hrt
    exact W.aret (hlocks := hlk) (v := mz_v ad sK sV vF (.inr r)) hx hb (by rw [hr]; exact hrt) (Or.inl ⟨n, rfl⟩) (mz_isr hCx.2.2.2.2.2.2.1 ad sK sV r) (fun t ht _ => mz_done (r0 := some (.inr r)) hH h1 (fun w hw => by cases hw; exact mz_H_hd hH) ht) hH.2.2.1.2.2 hd
  · rcases st with _ | ⟨v, st⟩
    case cons => exact False.elim h
    have h : none = r0 ∧ σ = σ0 := h
    obtain ⟨rfl, rfl⟩ := h
    simp only [mz_ch1, Bool.and_eq_true, decide_eq_true_eq] at hc
    obtain ⟨hc, ht⟩ := hc
    obtain ⟨hd, hp⟩ := mz_D_ok hc
    exact W.vret (hlocks := hlk) hx hb (by rw [hr]; exact ht) (fun t ht _ => mz_done (r0 := none) hH h1 (fun w hw => by cases hw) ht) hH.2.2.1.2.2 hd

theorem mz_s49 (hR : R.cells = σ0.1 - te ∧ R.slots = σ0.2.1 - se) (hok : ∀ k, k < 300 → mz_ok k = true) (hF : mz_F p R s m args meth c D cy sK sV vF β k) (hc : mz_ch1 k i 49 a b c9 x9 y9 = true) (h : mz_st1 (fun ls st σ => mz_gr σ σ0 ∧ mz_K p l e R s m args below meth c D cy sK sV vF β Q ade te se k (i + 1) ls st σ) (fun k9 as σ9 K => ∃ (r1 : Option mz_V) (σ1 : mz_S), mz_gr σ9 σ1 ∧ (mz_wS σ9 → (∀ v ∈ as, mz_wf σ9 v) → as.length = mz_na k9 → ∀ ad, mz_Met l D cy sK sV vF β k9 ad as σ9 r1 σ1) ∧ K r1 σ1) rt (49, a, b, c9, x9, y9) ls st σ) : mz_K p l e R s m args below meth c D cy sK sV vF β Q ade te se k i ls st σ := by
  have hF9 := hF
  obtain ⟨hx, hb, hr, hml, hown, hlk, hnm, hts, hCx, hfr, hlo⟩ := hF
  intro ad lsA H locs h1 h2 h3 hH
  have hS := hH.2.2.2.1
  obtain ⟨as, rest, est, hlen, hN0⟩ := mz_pop_spec h
  rw [List.append_nil] at hN0
  subst est
  have h : rest.length ≤ 8 ∧ ∃ (r1 : Option mz_V) (σ1 : mz_S), mz_gr σ σ1 ∧ (mz_wS σ → (∀ v ∈ as, mz_wf σ v) → as.length = mz_na a → ∀ ad, mz_Met l D cy sK sV vF β a ad as σ r1 σ1) ∧ (mz_gr σ1 σ0 ∧ mz_K p l e R s m args below meth c D cy sK sV vF β Q ade te se k (i + 1) ls (r1.toList ++ rest) σ1) := hN0
  obtain ⟨hl8, r1, σ1, hgq, hM, hgK, hN⟩ := h
  simp only [mz_ch1, mz_call, Bool.and_eq_true, decide_eq_true_eq] at hc
  obtain ⟨⟨⟨hc, hw⟩, hac⟩, hst⟩ := hc
  obtain ⟨hd, hp⟩ := mz_D_ok hc
  have hka : a < 300 := by rw [← mz_cdL_len]; exact hac.2
  obtain ⟨m1, m2, m3, m4, m5, m6, m7, m8, m9, m10⟩ := mz_mok_ok (hok a hka)
  have hgr := hgq.1
  have hgr2 := hgq.2
  have hn : as.length = mz_na a := by rw [hlen]; exact hac.1.2
  have hdp : mz_dep a < mz_dep k := hac.1.1
  have hMet := hM hS (fun v hv => mz_H_wf hH (List.mem_append_left _ (List.mem_reverse.mpr hv))) hn ad
  have hH2 : mz_H s D cy sK sV vF β k ad σ ls rest lsA H locs := mz_H_st hH fun v hv => mz_H_wf hH (List.mem_append_right _ hv)
  have hPre : ∀ U : State, U.heap = H → s.WarmedH U.vm → mz_Pc D cy sK sV vF β ad σ as (as.map (mz_v ad sK sV vF)).toArray U := fun U hU hW => ⟨rfl, by rw [hU]; exact hH.1, hH.2.1, mz_Cx_go hCx hW (by rw [hU]; exact hH.2.2.1.1) (fun q a1 a2 => by rw [hU]; exact hH.2.2.1.2.1 q a1 a2)⟩
  have hRm : (mz_rm9 a σ σ1).frames + 1 ≤ R.frames ∧ 8 + (mz_L a + 11) + (mz_rm9 a σ σ1).locals ≤ R.locals := ⟨by show mz_dep a + 1 ≤ _; omega, by show 8 + (mz_L a + 11) + 60 * mz_dep a ≤ _; omega⟩
  have hcs : σ.1 - te + (σ1.1 - σ.1) ≤ R.cells ∧ σ.2.1 - se + (σ1.2.1 - σ.2.1) ≤ R.slots := ⟨by rw [hR.1]; have := hgK.1; omega, by rw [hR.2]; have := hgK.2; omega⟩
  have hcat : 2 * (F0 m (mz_pc k i) lsA ((as.reverse ++ rest).map (mz_v ad sK sV vF))).monitorRoom + ((rest.map (mz_v ad sK sV vF)).map fun v => v.category).sum ≤ 8 := by
    rw [mz_cats hCx.2.2.2.2.2.2.1]
    show 2 * 0 + rest.length ≤ 8
    omega
  have hsz : (F0 m (mz_pc k i) lsA ((as.reverse ++ rest).map (mz_v ad sK sV vF))).locals.size = mz_L k := hH.2.2.2.2.2.2.1.1
  have hpar : (parseMethodDescriptor (mz_y a).desc).map (fun d => d.parameters.length) = some as.length := by
    rcases m9 with ⟨-, q⟩ | ⟨q1, q2⟩
    · rw [q, hn]
    · exact absurd (mz_W_inj hst q1.1) (by intro h; cases h)
  have hcw := callB_of (R := R) (s := s) (args := args) (index := x9) (own := (mz_y k).cls) (rm := mz_rm9 a σ σ1) (mc := σ1.1 - σ.1) (ms := σ1.2.1 - σ.2.1) as.length hts (mz_goodk m4) rfl rfl rfl (hts _ (mz_W_ok m5)) (hts _ (mz_W_ok hw)) ⟨m2, m3, hpar⟩ hRm
  exact mz_after hH2 h1 h2 h3 hgq (va_runS (rest := rest.map (mz_v ad sK sV vF)) ⟨hx, hb, hml, hown, hts⟩ hMet ⟨hcw, hts _ (mz_W_ok hst)⟩ ⟨mz_blind, hPre⟩ rfl (by rw [List.length_map]) hsz (by simp) hcat hd hcs) hN hp

theorem mz_s52 (hR : R.cells = σ0.1 - te ∧ R.slots = σ0.2.1 - se) (hok : ∀ k, k < 300 → mz_ok k = true) (hF : mz_F p R s m args meth c D cy sK sV vF β k) (hc : mz_ch1 k i 52 a b c9 x9 y9 = true) (h : mz_st1 (fun ls st σ => mz_gr σ σ0 ∧ mz_K p l e R s m args below meth c D cy sK sV vF β Q ade te se k (i + 1) ls st σ) (fun k9 as σ9 K => ∃ (r1 : Option mz_V) (σ1 : mz_S), mz_gr σ9 σ1 ∧ (mz_wS σ9 → (∀ v ∈ as, mz_wf σ9 v) → as.length = mz_na k9 → ∀ ad, mz_Met l D cy sK sV vF β k9 ad as σ9 r1 σ1) ∧ K r1 σ1) rt (52, a, b, c9, x9, y9) ls st σ) : mz_K p l e R s m args below meth c D cy sK sV vF β Q ade te se k i ls st σ := by
  have hF9 := hF
  obtain ⟨hx, hb, hr, hml, hown, hlk, hnm, hts, hCx, hfr, hlo⟩ := hF
  intro ad lsA H locs h1 h2 h3 hH
  have hS := hH.2.2.2.1
  obtain ⟨as, rest, est, hlen, hN0⟩ := mz_pop_spec h
  rw [List.append_nil] at hN0
  subst est
  have h : rest.length ≤ 8 ∧ ∃ (r1 : Option mz_V) (σ1 : mz_S), mz_gr σ σ1 ∧ (mz_wS σ → (∀ v ∈ as, mz_wf σ v) → as.length = mz_na a → ∀ ad, mz_Met l D cy sK sV vF β a ad as σ r1 σ1) ∧ (mz_gr σ1 σ0 ∧ mz_K p l e R s m args below meth c D cy sK sV vF β Q ade te se k (i + 1) ls (r1.toList ++ rest) σ1) := hN0
  obtain ⟨hl8, r1, σ1, hgq, hM, hgK, hN⟩ := h
  simp only [mz_ch1, mz_call, Bool.and_eq_true, decide_eq_true_eq] at hc
  obtain ⟨⟨⟨hc, hw⟩, hac⟩, hst⟩ := hc
  obtain ⟨hd, hp⟩ := mz_D_ok hc
  have hka : a < 300 := by rw [← mz_cdL_len]; exact hac.2
  obtain ⟨m1, m2, m3, m4, m5, m6, m7, m8, m9, m10⟩ := mz_mok_ok (hok a hka)
  have hgr := hgq.1
  have hgr2 := hgq.2
  have hn : as.length = mz_na a := by rw [hlen]; exact hac.1.2
  have hdp : mz_dep a < mz_dep k := hac.1.1
  have hMet := hM hS (fun v hv => mz_H_wf hH (List.mem_append_left _ (List.mem_reverse.mpr hv))) hn ad
  have hH2 : mz_H s D cy sK sV vF β k ad σ ls rest lsA H locs := mz_H_st hH fun v hv => mz_H_wf hH (List.mem_append_right _ hv)
  have hPre : ∀ U : State, U.heap = H → s.WarmedH U.vm → mz_Pc D cy sK sV vF β ad σ as (as.map (mz_v ad sK sV vF)).toArray U := fun U hU hW => ⟨rfl, by rw [hU]; exact hH.1, hH.2.1, mz_Cx_go hCx hW (by rw [hU]; exact hH.2.2.1.1) (fun q a1 a2 => by rw [hU]; exact hH.2.2.1.2.1 q a1 a2)⟩
  have hRm : (mz_rm9 a σ σ1).frames + 1 ≤ R.frames ∧ 8 + (mz_L a + 11) + (mz_rm9 a σ σ1).locals ≤ R.locals := ⟨by show mz_dep a + 1 ≤ _; omega, by show 8 + (mz_L a + 11) + 60 * mz_dep a ≤ _; omega⟩
  have hcs : σ.1 - te + (σ1.1 - σ.1) ≤ R.cells ∧ σ.2.1 - se + (σ1.2.1 - σ.2.1) ≤ R.slots := ⟨by rw [hR.1]; have := hgK.1; omega, by rw [hR.2]; have := hgK.2; omega⟩
  have hcat : 2 * (F0 m (mz_pc k i) lsA ((as.reverse ++ rest).map (mz_v ad sK sV vF))).monitorRoom + ((rest.map (mz_v ad sK sV vF)).map fun v => v.category).sum ≤ 8 := by
    rw [mz_cats hCx.2.2.2.2.2.2.1]
    show 2 * 0 + rest.length ≤ 8
    omega
  have hsz : (F0 m (mz_pc k i) lsA ((as.reverse ++ rest).map (mz_v ad sK sV vF))).locals.size = mz_L k := hH.2.2.2.2.2.2.1.1
  have hpar : (parseMethodDescriptor (mz_y a).desc).map (fun d => d.parameters.length) = some as.length := by
    rcases m9 with ⟨-, q⟩ | ⟨q1, q2⟩
    · rw [q, hn]
    · exact absurd (mz_W_inj hst q1.1) (by intro h; cases h)
  have hcw := va_cnB (R := R) (s := s) (args := args) (index := x9) (own := (mz_y k).cls) (host := "ParkingEnforcement") (rm := mz_rm9 a σ σ1) (mc := σ1.1 - σ.1) (ms := σ1.2.1 - σ.2.1) as.length hts (mz_goodk m4) rfl rfl rfl (hCx.2.1 _ (mz_N_ok hw)) (hts _ (mz_W_ok m5)) ⟨m2, m3, hpar⟩ hRm
  exact mz_after hH2 h1 h2 h3 hgq (va_runSN (rest := rest.map (mz_v ad sK sV vF)) ⟨hx, hb, hml, hown, hts⟩ hMet ⟨hcw, hts _ (mz_W_ok hst), trivial⟩ ⟨mz_blind, hPre⟩ rfl (by rw [List.length_map]) hsz (by simp) hcat hd hcs) hN hp

theorem mz_s50 (hR : R.cells = σ0.1 - te ∧ R.slots = σ0.2.1 - se) (hok : ∀ k, k < 300 → mz_ok k = true) (hF : mz_F p R s m args meth c D cy sK sV vF β k) (hc : mz_ch1 k i 50 a b c9 x9 y9 = true) (h : mz_st1 (fun ls st σ => mz_gr σ σ0 ∧ mz_K p l e R s m args below meth c D cy sK sV vF β Q ade te se k (i + 1) ls st σ) (fun k9 as σ9 K => ∃ (r1 : Option mz_V) (σ1 : mz_S), mz_gr σ9 σ1 ∧ (mz_wS σ9 → (∀ v ∈ as, mz_wf σ9 v) → as.length = mz_na k9 → ∀ ad, mz_Met l D cy sK sV vF β k9 ad as σ9 r1 σ1) ∧ K r1 σ1) rt (50, a, b, c9, x9, y9) ls st σ) : mz_K p l e R s m args below meth c D cy sK sV vF β Q ade te se k i ls st σ := by
  have hF9 := hF
  obtain ⟨hx, hb, hr, hml, hown, hlk, hnm, hts, hCx, hfr, hlo⟩ := hF
  intro ad lsA H locs h1 h2 h3 hH
  have hS := hH.2.2.2.1
  obtain ⟨as, rest, est, hlen, hN0⟩ := mz_pop_spec h
  rw [List.append_nil] at hN0
  subst est
  have h : mz_rc b as ∧ rest.length ≤ 8 ∧ ∃ (r1 : Option mz_V) (σ1 : mz_S), mz_gr σ σ1 ∧ (mz_wS σ → (∀ v ∈ as, mz_wf σ v) → as.length = mz_na a → ∀ ad, mz_Met l D cy sK sV vF β a ad as σ r1 σ1) ∧ (mz_gr σ1 σ0 ∧ mz_K p l e R s m args below meth c D cy sK sV vF β Q ade te se k (i + 1) ls (r1.toList ++ rest) σ1) := hN0
  obtain ⟨hrc, hl8, r1, σ1, hgq, hM, hgK, hN⟩ := h
  simp only [mz_ch1, mz_call, Bool.and_eq_true, decide_eq_true_eq] at hc
  obtain ⟨⟨⟨⟨⟨⟨⟨hc, hw⟩, hac⟩, hst⟩, hsel⟩, hcn⟩, hb0⟩, hb1⟩ := hc
  obtain ⟨hd, hp⟩ := mz_D_ok hc
  have hka : a < 300 := by rw [← mz_cdL_len]; exact hac.2
  obtain ⟨m1, m2, m3, m4, m5, m6, m7, m8, m9, m10⟩ := mz_mok_ok (hok a hka)
  have hgr := hgq.1
  have hgr2 := hgq.2
  have hn : as.length = mz_na a := by rw [hlen]; exact hac.1.2
  have hdp : mz_dep a < mz_dep k := hac.1.1
  have hMet := hM hS (fun v hv => mz_H_wf hH (List.mem_append_left _ (List.mem_reverse.mpr hv))) hn ad
  have hH2 : mz_H s D cy sK sV vF β k ad σ ls rest lsA H locs := mz_H_st hH fun v hv => mz_H_wf hH (List.mem_append_right _ hv)
  have hPre : ∀ U : State, U.heap = H → s.WarmedH U.vm → mz_Pc D cy sK sV vF β ad σ as (as.map (mz_v ad sK sV vF)).toArray U := fun U hU hW => ⟨rfl, by rw [hU]; exact hH.1, hH.2.1, mz_Cx_go hCx hW (by rw [hU]; exact hH.2.2.1.1) (fun q a1 a2 => by rw [hU]; exact hH.2.2.1.2.1 q a1 a2)⟩
  have hRm : (mz_rm9 a σ σ1).frames + 1 ≤ R.frames ∧ 8 + (mz_L a + 11) + (mz_rm9 a σ σ1).locals ≤ R.locals := ⟨by show mz_dep a + 1 ≤ _; omega, by show 8 + (mz_L a + 11) + 60 * mz_dep a ≤ _; omega⟩
  have hcs : σ.1 - te + (σ1.1 - σ.1) ≤ R.cells ∧ σ.2.1 - se + (σ1.2.1 - σ.2.1) ≤ R.slots := ⟨by rw [hR.1]; have := hgK.1; omega, by rw [hR.2]; have := hgK.2; omega⟩
  have hcat : 2 * (F0 m (mz_pc k i) lsA ((as.reverse ++ rest).map (mz_v ad sK sV vF))).monitorRoom + ((rest.map (mz_v ad sK sV vF)).map fun v => v.category).sum ≤ 8 := by
    rw [mz_cats hCx.2.2.2.2.2.2.1]
    show 2 * 0 + rest.length ≤ 8
    omega
  have hsz : (F0 m (mz_pc k i) lsA ((as.reverse ++ rest).map (mz_v ad sK sV vF))).locals.size = mz_L k := hH.2.2.2.2.2.2.1.1
  rcases as with _ | ⟨v0, as⟩
  · exact False.elim hrc
  rcases v0 with v0 | _ | ⟨t0, z0, o0⟩
  case inl => exact False.elim hrc
  case inr.none => exact False.elim hrc
  have hrc : (t0 : Int) = b := hrc
  have hpar : (parseMethodDescriptor (mz_y a).desc).map (fun d => d.parameters.length) = some as.length := by
    rcases m9 with ⟨q, -⟩ | ⟨q1, q2⟩
    · exact absurd (mz_W_inj q hst) (by intro h; cases h)
    · rw [q2]
      have q1 := q1.2
      have hn : as.length + 1 = mz_na a := hn
      congr 1
      omega
  have hv0 : mz_wf σ (.inr (some (t0, z0, o0))) := mz_H_wf hH (List.mem_append_left _ (List.mem_reverse.mpr List.mem_cons_self))
  have ht0 : t0 = b.toNat := by omega
  have hrec : ∃ q, mz_v ad sK sV vF (.inr (some (t0, z0, o0))) = .ref q ∧ ∃ cellB : Cell, H[q]? = some cellB ∧ cellB.vm.isStatics = false ∧ s.vm.findClass (mz_y a).cls = some cellB.cls := by
    rw [← hcn, ← ht0]
    rcases hb1 with hb1 | hb1
    · have ho := mz_wf_o hv0 (Or.inl (by omega))
      refine ⟨ad o0, mz_v_o (Or.inl (by omega)), ?_⟩
      exact va_recv (q := (mz_cn t0, mz_T t0, mz_nf t0)) hCx.1 hH.1 (mz_cl_at t0 (by omega)) (q0 := o0) (by rw [mz_ws_at _ _ _ ho.1, mz_en_o ho.2 (by omega)])
    · obtain rfl : t0 = 90 := by omega
      have hv : o0 < 18 := hv0
      exact ⟨sK o0, rfl, mz_vo.recv hCx.2.2.2.1 hv hH.2.2.1⟩
  obtain ⟨q0, hq0, hrec⟩ := hrec
  have hcw := callB_of (R := R) (s := s) (args := args) (index := x9) (own := (mz_y k).cls) (rm := mz_rm9 a σ σ1) (mc := σ1.1 - σ.1) (ms := σ1.2.1 - σ.2.1) as.length hts (mz_goodk m4) rfl rfl rfl (hts _ (mz_W_ok m5)) (hts _ (mz_W_ok hw)) ⟨m2, m3, hpar⟩ hRm
  rw [List.map_cons, hq0] at hPre
  exact mz_after hH2 h1 h2 h3 hgq (va_runV (C := (mz_y a).cls) (b := q0) (As := as.map (mz_v ad sK sV vF)) (rest := rest.map (mz_v ad sK sV vF)) ⟨hx, hb, hml, hown, hts⟩ hMet ⟨hcw, hts _ (mz_W_ok hst), hts _ (mz_W_ok hsel)⟩ ⟨mz_blind, hrec, hPre⟩ rfl (by rw [List.length_map]) hsz (by simp [hq0]) hcat hd hcs) hN hp

theorem mz_s51 (hR : R.cells = σ0.1 - te ∧ R.slots = σ0.2.1 - se) (hok : ∀ k, k < 300 → mz_ok k = true) (hF : mz_F p R s m args meth c D cy sK sV vF β k) (hc : mz_ch1 k i 51 a b c9 x9 y9 = true) (h : mz_st1 (fun ls st σ => mz_gr σ σ0 ∧ mz_K p l e R s m args below meth c D cy sK sV vF β Q ade te se k (i + 1) ls st σ) (fun k9 as σ9 K => ∃ (r1 : Option mz_V) (σ1 : mz_S), mz_gr σ9 σ1 ∧ (mz_wS σ9 → (∀ v ∈ as, mz_wf σ9 v) → as.length = mz_na k9 → ∀ ad, mz_Met l D cy sK sV vF β k9 ad as σ9 r1 σ1) ∧ K r1 σ1) rt (51, a, b, c9, x9, y9) ls st σ) : mz_K p l e R s m args below meth c D cy sK sV vF β Q ade te se k i ls st σ := by
  have hF9 := hF
  obtain ⟨hx, hb, hr, hml, hown, hlk, hnm, hts, hCx, hfr, hlo⟩ := hF
  intro ad lsA H locs h1 h2 h3 hH
  have hS := hH.2.2.2.1
  obtain ⟨as, rest, est, hlen, hN0⟩ := mz_pop_spec h
  rw [List.append_nil] at hN0
  subst est
  have h : mz_rc b as ∧ rest.length ≤ 8 ∧ ∃ (r1 : Option mz_V) (σ1 : mz_S), mz_gr σ σ1 ∧ (mz_wS σ → (∀ v ∈ as, mz_wf σ v) → as.length = mz_na a → ∀ ad, mz_Met l D cy sK sV vF β a ad as σ r1 σ1) ∧ (mz_gr σ1 σ0 ∧ mz_K p l e R s m args below meth c D cy sK sV vF β Q ade te se k (i + 1) ls (r1.toList ++ rest) σ1) := hN0
  obtain ⟨hrc, hl8, r1, σ1, hgq, hM, hgK, hN⟩ := h
  simp only [mz_ch1, mz_call, Bool.and_eq_true, decide_eq_true_eq] at hc
  obtain ⟨⟨⟨⟨⟨⟨⟨hc, hw⟩, hac⟩, hst⟩, hini⟩, hrt⟩, hb0⟩, hb1⟩ := hc
  obtain ⟨hd, hp⟩ := mz_D_ok hc
  have hka : a < 300 := by rw [← mz_cdL_len]; exact hac.2
  obtain ⟨m1, m2, m3, m4, m5, m6, m7, m8, m9, m10⟩ := mz_mok_ok (hok a hka)
  have hgr := hgq.1
  have hgr2 := hgq.2
  have hn : as.length = mz_na a := by rw [hlen]; exact hac.1.2
  have hdp : mz_dep a < mz_dep k := hac.1.1
  have hMet := hM hS (fun v hv => mz_H_wf hH (List.mem_append_left _ (List.mem_reverse.mpr hv))) hn ad
  have hH2 : mz_H s D cy sK sV vF β k ad σ ls rest lsA H locs := mz_H_st hH fun v hv => mz_H_wf hH (List.mem_append_right _ hv)
  have hPre : ∀ U : State, U.heap = H → s.WarmedH U.vm → mz_Pc D cy sK sV vF β ad σ as (as.map (mz_v ad sK sV vF)).toArray U := fun U hU hW => ⟨rfl, by rw [hU]; exact hH.1, hH.2.1, mz_Cx_go hCx hW (by rw [hU]; exact hH.2.2.1.1) (fun q a1 a2 => by rw [hU]; exact hH.2.2.1.2.1 q a1 a2)⟩
  have hRm : (mz_rm9 a σ σ1).frames + 1 ≤ R.frames ∧ 8 + (mz_L a + 11) + (mz_rm9 a σ σ1).locals ≤ R.locals := ⟨by show mz_dep a + 1 ≤ _; omega, by show 8 + (mz_L a + 11) + 60 * mz_dep a ≤ _; omega⟩
  have hcs : σ.1 - te + (σ1.1 - σ.1) ≤ R.cells ∧ σ.2.1 - se + (σ1.2.1 - σ.2.1) ≤ R.slots := ⟨by rw [hR.1]; have := hgK.1; omega, by rw [hR.2]; have := hgK.2; omega⟩
  have hcat : 2 * (F0 m (mz_pc k i) lsA ((as.reverse ++ rest).map (mz_v ad sK sV vF))).monitorRoom + ((rest.map (mz_v ad sK sV vF)).map fun v => v.category).sum ≤ 8 := by
    rw [mz_cats hCx.2.2.2.2.2.2.1]
    show 2 * 0 + rest.length ≤ 8
    omega
  have hsz : (F0 m (mz_pc k i) lsA ((as.reverse ++ rest).map (mz_v ad sK sV vF))).locals.size = mz_L k := hH.2.2.2.2.2.2.1.1
  rcases as with _ | ⟨v0, as⟩
  · exact False.elim hrc
  rcases v0 with v0 | _ | ⟨t0, z0, o0⟩
  case inl => exact False.elim hrc
  case inr.none => exact False.elim hrc
  have hrc : (t0 : Int) = b := hrc
  have hpar : (parseMethodDescriptor (mz_y a).desc).map (fun d => d.parameters.length) = some as.length := by
    rcases m9 with ⟨q, -⟩ | ⟨q1, q2⟩
    · exact absurd (mz_W_inj q hst) (by intro h; cases h)
    · rw [q2]
      have q1 := q1.2
      have hn : as.length + 1 = mz_na a := hn
      congr 1
      omega
  have hq0 : mz_v ad sK sV vF (.inr (some (t0, z0, o0))) = .ref (ad o0) := mz_v_o (Or.inl (by omega))
  rw [List.map_cons, hq0] at hPre
  rw [hrt] at m4
  have hMet := hMet
  unfold mz_Met mz_wsk at hMet
  rw [hrt] at hMet
  have hgd := mz_goodk (k := a) (by rw [hrt]; exact m4)
  unfold mz_wsk at hgd
  rw [hrt] at hgd
  have hcw := callB_of (R := R) (s := s) (args := args) (index := x9) (own := (mz_y k).cls) (rm := mz_rm9 a σ σ1) (mc := σ1.1 - σ.1) (ms := σ1.2.1 - σ.2.1) as.length hts hgd rfl rfl rfl (hts _ (mz_W_ok m5)) (hts _ (mz_W_ok hw)) ⟨m2, m3, hpar⟩ hRm
  exact mz_after hH2 h1 h2 h3 hgq (va_runI (b := ad o0) (As := as.map (mz_v ad sK sV vF)) (rest := rest.map (mz_v ad sK sV vF)) ⟨hx, hb, hml, hown, hts⟩ hMet ⟨hcw, hini, hts _ (mz_W_ok hst)⟩ ⟨mz_blind, hPre⟩ rfl (by rw [List.length_map]) hsz (by simp [hq0]) hcat hd hcs) hN hp

theorem mz_s54 (hR : R.cells = σ0.1 - te ∧ R.slots = σ0.2.1 - se) (hok : ∀ k, k < 300 → mz_ok k = true) (hF : mz_F p R s m args meth c D cy sK sV vF β k) (hc : mz_ch1 k i 54 a b c9 x9 y9 = true) (h : mz_st1 (fun ls st σ => mz_gr σ σ0 ∧ mz_K p l e R s m args below meth c D cy sK sV vF β Q ade te se k (i + 1) ls st σ) (fun k9 as σ9 K => ∃ (r1 : Option mz_V) (σ1 : mz_S), mz_gr σ9 σ1 ∧ (mz_wS σ9 → (∀ v ∈ as, mz_wf σ9 v) → as.length = mz_na k9 → ∀ ad, mz_Met l D cy sK sV vF β k9 ad as σ9 r1 σ1) ∧ K r1 σ1) rt (54, a, b, c9, x9, y9) ls st σ) : mz_K p l e R s m args below meth c D cy sK sV vF β Q ade te se k i ls st σ := by
  have hF9 := hF
  obtain ⟨hx, hb, hr, hml, hown, hlk, hnm, hts, hCx, hfr, hlo⟩ := hF
  intro ad lsA H locs h1 h2 h3 hH
  have hS := hH.2.2.2.1
  obtain ⟨as, rest, est, hlen, hN0⟩ := mz_pop_spec h
  rw [List.append_nil] at hN0
  subst est
  have h : mz_rc b as ∧ rest.length ≤ 8 ∧ ∃ (r1 : Option mz_V) (σ1 : mz_S), mz_gr σ σ1 ∧ (mz_wS σ → (∀ v ∈ as, mz_wf σ v) → as.length = mz_na a → ∀ ad, mz_Met l D cy sK sV vF β a ad as σ r1 σ1) ∧ (mz_gr σ1 σ0 ∧ mz_K p l e R s m args below meth c D cy sK sV vF β Q ade te se k (i + 1) ls (r1.toList ++ rest) σ1) := hN0
  obtain ⟨hrc, hl8, r1, σ1, hgq, hM, hgK, hN⟩ := h
  simp only [mz_ch1, mz_call, Bool.and_eq_true, decide_eq_true_eq] at hc
  obtain ⟨⟨⟨⟨⟨⟨⟨hc, hw⟩, hac⟩, hst⟩, hini⟩, hrt⟩, hb0⟩, hb1⟩ := hc
  obtain ⟨hd, hp⟩ := mz_D_ok hc
  have hka : a < 300 := by rw [← mz_cdL_len]; exact hac.2
  obtain ⟨m1, m2, m3, m4, m5, m6, m7, m8, m9, m10⟩ := mz_mok_ok (hok a hka)
  have hgr := hgq.1
  have hgr2 := hgq.2
  have hn : as.length = mz_na a := by rw [hlen]; exact hac.1.2
  have hdp : mz_dep a < mz_dep k := hac.1.1
  have hMet := hM hS (fun v hv => mz_H_wf hH (List.mem_append_left _ (List.mem_reverse.mpr hv))) hn ad
  have hH2 : mz_H s D cy sK sV vF β k ad σ ls rest lsA H locs := mz_H_st hH fun v hv => mz_H_wf hH (List.mem_append_right _ hv)
  have hPre : ∀ U : State, U.heap = H → s.WarmedH U.vm → mz_Pc D cy sK sV vF β ad σ as (as.map (mz_v ad sK sV vF)).toArray U := fun U hU hW => ⟨rfl, by rw [hU]; exact hH.1, hH.2.1, mz_Cx_go hCx hW (by rw [hU]; exact hH.2.2.1.1) (fun q a1 a2 => by rw [hU]; exact hH.2.2.1.2.1 q a1 a2)⟩
  have hRm : (mz_rm9 a σ σ1).frames + 1 ≤ R.frames ∧ 8 + (mz_L a + 11) + (mz_rm9 a σ σ1).locals ≤ R.locals := ⟨by show mz_dep a + 1 ≤ _; omega, by show 8 + (mz_L a + 11) + 60 * mz_dep a ≤ _; omega⟩
  have hcs : σ.1 - te + (σ1.1 - σ.1) ≤ R.cells ∧ σ.2.1 - se + (σ1.2.1 - σ.2.1) ≤ R.slots := ⟨by rw [hR.1]; have := hgK.1; omega, by rw [hR.2]; have := hgK.2; omega⟩
  have hcat : 2 * (F0 m (mz_pc k i) lsA ((as.reverse ++ rest).map (mz_v ad sK sV vF))).monitorRoom + ((rest.map (mz_v ad sK sV vF)).map fun v => v.category).sum ≤ 8 := by
    rw [mz_cats hCx.2.2.2.2.2.2.1]
    show 2 * 0 + rest.length ≤ 8
    omega
  have hsz : (F0 m (mz_pc k i) lsA ((as.reverse ++ rest).map (mz_v ad sK sV vF))).locals.size = mz_L k := hH.2.2.2.2.2.2.1.1
  rcases as with _ | ⟨v0, as⟩
  · exact False.elim hrc
  rcases v0 with v0 | _ | ⟨t0, z0, o0⟩
  case inl => exact False.elim hrc
  case inr.none => exact False.elim hrc
  have hrc : (t0 : Int) = b := hrc
  have hpar : (parseMethodDescriptor (mz_y a).desc).map (fun d => d.parameters.length) = some as.length := by
    rcases m9 with ⟨q, -⟩ | ⟨q1, q2⟩
    · exact absurd (mz_W_inj q hst) (by intro h; cases h)
    · rw [q2]
      have q1 := q1.2
      have hn : as.length + 1 = mz_na a := hn
      congr 1
      omega
  have hq0 : mz_v ad sK sV vF (.inr (some (t0, z0, o0))) = .ref (ad o0) := mz_v_o (Or.inl (by omega))
  rw [List.map_cons, hq0] at hPre
  rw [hrt] at m4
  have hMet := hMet
  unfold mz_Met mz_wsk at hMet
  rw [hrt] at hMet
  have hgd := mz_goodk (k := a) (by rw [hrt]; exact m4)
  unfold mz_wsk at hgd
  rw [hrt] at hgd
  have hcw := va_cnB (R := R) (s := s) (args := args) (index := x9) (own := (mz_y k).cls) (host := "ParkingEnforcement") (rm := mz_rm9 a σ σ1) (mc := σ1.1 - σ.1) (ms := σ1.2.1 - σ.2.1) as.length hts hgd rfl rfl rfl (hCx.2.1 _ (mz_N_ok hw)) (hts _ (mz_W_ok m5)) ⟨m2, m3, hpar⟩ hRm
  exact mz_after hH2 h1 h2 h3 hgq (va_runIN (b := ad o0) (As := as.map (mz_v ad sK sV vF)) (rest := rest.map (mz_v ad sK sV vF)) ⟨hx, hb, hml, hown, hts⟩ hMet ⟨hcw, hini, hts _ (mz_W_ok hst)⟩ ⟨mz_blind, hPre⟩ rfl (by rw [List.length_map]) hsz (by simp [hq0]) hcat hd hcs) hN hp

end Sn7
