/-! What is made, what is copied, texts, the library. -/
section Sn5
variable {p : Program} {l : Launch} {e : Env} {R : Room} {s : State} {m : MethodId} {args : Array Value} {below : List Frame} {meth : Method} {c : Code} {D : va_G} {cy : Nat → ClassId} {sK sV : Nat → Nat} {vF : Value} {β : Nat → Prop} {Q : State → Prop} {ade : Nat → Nat} {te se : Nat} {k i a c9 x9 y9 : Nat} {b : Int} {σ σ0 : mz_S} {ls : mz_Ls} {st : List mz_V} {call : Nat → List mz_V → mz_S → (Option mz_V → mz_S → Prop) → Prop} {rt : Option mz_V → mz_S → Prop}
theorem mz_wd0 : Cond.arrayClass .int ∈ mz_gw := mz_W_ok (y := 1063) (by decide +kernel)
theorem mz_wd1 : Cond.arrayClass .boolean ∈ mz_gw := mz_W_ok (y := 2108) (by decide +kernel)
theorem mz_wd2 : Cond.arrayClass .byte ∈ mz_gw := mz_W_ok (y := 3111) (by decide +kernel)
theorem mz_wd3 : Cond.instanceMethod Lib.objectInit ∈ mz_gw := mz_W_ok (y := 1031) (by decide +kernel)
theorem mz_wd4 : Cond.code Lib.objectInit ⟨#[0xb1]⟩ 1 none ∈ mz_gw := mz_W_ok (y := 1032) (by decide +kernel)
theorem mz_wd5 : Cond.native arraycopyName ∈ mz_gw := mz_W_ok (y := 1089) (by decide +kernel)
theorem mz_wd6 : Cond.static arraycopyName ∈ mz_gw := mz_W_ok (y := 1088) (by decide +kernel)
theorem mz_wd7 : Cond.initialized "java/lang/System" ∈ mz_gw := mz_W_ok (y := 1007) (by decide +kernel)
theorem mz_wd8 : Cond.static Lib.Math.max.name ∈ mz_gw := mz_W_ok (y := 3173) (by decide +kernel)
theorem mz_wd9 : Cond.code Lib.Math.max.name Lib.Math.max.code 2 (some .int) ∈ mz_gw := mz_W_ok (y := 3174) (by decide +kernel)
theorem mz_wd10 : Cond.static Lib.Math.min.name ∈ mz_gw := mz_W_ok (y := 1085) (by decide +kernel)
theorem mz_wd11 : Cond.code Lib.Math.min.name Lib.Math.min.code 2 (some .int) ∈ mz_gw := mz_W_ok (y := 1086) (by decide +kernel)
theorem mz_wd12 : Cond.initialized "java/lang/Math" ∈ mz_gw := mz_W_ok (y := 1006) (by decide +kernel)
theorem mz_nn (n : Nat) : Int32.ofNat n = Int32.ofInt (n : Int) := by first | rfl | exact (Int32.ofInt_eq_ofNat ..).symm | simp
theorem mz_so_len : mz_so.length = 18 := by decide +kernel
theorem mz_tx_len : mz_tx.length = 18 := by decide +kernel
theorem mz_tl_at {a : Nat} (h : a < 18) : (mz_tx.map List.length).getD a 0 = mz_tl a := by
  have h : a < mz_tx.length := by rw [mz_tx_len]; exact h
  unfold mz_tl
  simp [List.getD_eq_getElem?_getD, h]
theorem mz_tc_at {a j : Nat} (h : a < 18) (hj : j < mz_tl a) : ((mz_tx.map (fun l => l.map Int32.ofInt)).getD a []).getD j 0 = Int32.ofInt (mz_tc a j) := by
  have h : a < mz_tx.length := by rw [mz_tx_len]; exact h
  unfold mz_tl at hj
  unfold mz_tc
  simp only [List.getD_eq_getElem?_getD, List.getElem?_map, List.getElem?_eq_getElem h, Option.map_some, Option.getD_some] at hj ⊢
  simp [List.getElem?_eq_getElem hj]
theorem mz_tcB : (mz_tx.all fun l => l.all fun x => decide (0 ≤ x ∧ x < 128)) = true := by decide +kernel
theorem mz_tc_w (a j : Nat) : mz_w (mz_tc a j) := by
  unfold mz_tc
  by_cases h : a < mz_tx.length
  · have h1 := List.all_eq_true.mp mz_tcB _ (List.getElem_mem h)
    simp only [List.getD_eq_getElem?_getD, List.getElem?_eq_getElem h, Option.getD_some]
    by_cases hj : j < (mz_tx[a]).length
    · have h2 := List.all_eq_true.mp h1 _ (List.getElem_mem hj)
      rw [decide_eq_true_eq] at h2
      simp only [List.getElem?_eq_getElem hj, Option.getD_some]
      unfold mz_w
      omega
    · simp only [List.getElem?_eq_none (Nat.not_lt.mp hj), Option.getD_none]
      exact mz_w0
  · simp only [List.getD_eq_getElem?_getD, List.getElem?_eq_none (Nat.not_lt.mp h), Option.getD_none]
    exact mz_w0
theorem mz_tys_at {cy : Nat → ClassId} {t : Nat} (h : 103 ≤ t ∧ t ≤ 105) : (mz_tys cy)[t - 100]? = some (cy (t - 100), .object (mz_cn (mz_ar t).1)) := by
  rcases (show t = 103 ∨ t = 104 ∨ t = 105 by omega) with rfl | rfl | rfl <;> rfl
theorem mz_ar_lt {t : Nat} (h : 103 ≤ t ∧ t ≤ 105) : (mz_ar t).1 < 10 := by
  rcases (show t = 103 ∨ t = 104 ∨ t = 105 by omega) with rfl | rfl | rfl <;> decide

theorem mz_s44 (hF : mz_F p R s m args meth c D cy sK sV vF β k) (hc : mz_ch1 k i 44 a b c9 x9 y9 = true) (h : mz_st1 (fun ls st σ => mz_gr σ σ0 ∧ mz_K p l e R s m args below meth c D cy sK sV vF β Q ade te se k (i + 1) ls st σ) call rt (44, a, b, c9, x9, y9) ls st σ) : mz_K p l e R s m args below meth c D cy sK sV vF β Q ade te se k i ls st σ := by
  obtain ⟨hx, hb, hr, hml, hown, hlk, hnm, hts, hCx, hfr, hlo⟩ := hF
  intro ad lsA H locs h1 h2 h3 hH
  have hA : ∀ q : Nat, s.heap.size ≤ q → β q := hCx.2.2.2.2.2.2.2.1
  have hS := hH.2.2.2.1
  rcases st with _ | ⟨j0, st⟩
  · exact False.elim h
  rcases j0 with j | w0
  case inr => exact False.elim h
  rcases st with _ | ⟨v0, st⟩
  · exact False.elim h
  rcases v0 with w0 | _ | ⟨tv, zv, ov⟩
  case inl => exact False.elim h
  case inr.none => exact False.elim h
  have h : (0 ≤ j ∧ j < zv) ∧ (if tv = 102 then (mz_gr σ σ0 ∧ mz_K p l e R s m args below meth c D cy sK sV vF β Q ade te se k (i + 1) ls (.inl (σ.2.2.2 ov j.toNat) :: st) σ) else tv = 91 ∧ (mz_gr σ σ0 ∧ mz_K p l e R s m args below meth c D cy sK sV vF β Q ade te se k (i + 1) ls (.inl (mz_tc ov j.toNat) :: st) σ)) := h
  obtain ⟨hj, h⟩ := h
  simp only [mz_ch1] at hc
  obtain ⟨hd, hp⟩ := mz_D_ok hc
  obtain ⟨hin, hjn⟩ := mz_inI (mz_H_hd hH) hj
  split at h
  · rename_i htv
    obtain ⟨hg, hN⟩ := h
    subst htv
    have ho := mz_wf_o (mz_H_hd (mz_H_tl hH)) (Or.inr (by omega))
    have he : (mz_ws ad cy σ)[ov]? = some (ad ov, .inl (cy 2, zv, .inl (fun k => Int32.ofInt (σ.2.2.2 ov k)))) := by rw [mz_ws_at _ _ _ ho.1, mz_en_a ho.2 (by omega)]
    rw [List.map_cons, List.map_cons, mz_v_o (Or.inr (by omega)), mz_v_i]
    exact va_bald hx hb hCx.1 hH.1 ov 2 he rfl hin hd (mz_K_at hN hp h1 h2 h3 (mz_H_cons (mz_H_tl (mz_H_tl hH)) (hS.2.1 _ _)) (by rw [List.map_cons, mz_v_i, hjn]))
  · obtain ⟨rfl, hg, h⟩ := h
    have hv : ov < 18 ∧ zv = mz_tl ov := mz_H_hd (mz_H_tl hH)
    have hT := (hCx.2.2.2.1 ov hv.1).2.2.2
    rw [mz_tl_at hv.1, ← hv.2] at hT
    refine va_tb (t := sV ov) hx hb hT hH.2.2.1 hin (v := .int (Int32.ofInt (mz_tc ov j.toNat))) ?_ hd (mz_K_at h hp h1 h2 h3 (mz_H_cons (mz_H_tl (mz_H_tl hH)) (mz_tc_w _ _)) rfl)
    rw [hjn, mz_tc_at hv.1 (by omega)]

theorem mz_s46 (hF : mz_F p R s m args meth c D cy sK sV vF β k) (hc : mz_ch1 k i 46 a b c9 x9 y9 = true) (h : mz_st1 (fun ls st σ => mz_gr σ σ0 ∧ mz_K p l e R s m args below meth c D cy sK sV vF β Q ade te se k (i + 1) ls st σ) call rt (46, a, b, c9, x9, y9) ls st σ) : mz_K p l e R s m args below meth c D cy sK sV vF β Q ade te se k i ls st σ := by
  obtain ⟨hx, hb, hr, hml, hown, hlk, hnm, hts, hCx, hfr, hlo⟩ := hF
  intro ad lsA H locs h1 h2 h3 hH
  have hA : ∀ q : Nat, s.heap.size ≤ q → β q := hCx.2.2.2.2.2.2.2.1
  have hS := hH.2.2.2.1
  rcases st with _ | ⟨j0, st⟩
  · exact False.elim h
  rcases j0 with j | w0
  case inr => exact False.elim h
  rcases st with _ | ⟨v0, st⟩
  · exact False.elim h
  rcases v0 with w0 | _ | ⟨tv, zv, ov⟩
  case inl => exact False.elim h
  case inr.none => exact False.elim h
  have h : (103 ≤ tv ∧ tv ≤ 105) ∧ (0 ≤ j ∧ j < zv) ∧ σ.2.2.1 ov j.toNat = true ∧ (mz_gr σ σ0 ∧ mz_K p l e R s m args below meth c D cy sK sV vF β Q ade te se k (i + 1) ls (.inr (some ((mz_ar tv).1, 0, ov + ((mz_ar tv).2.1 + (mz_ar tv).2.2 * j.toNat))) :: st) σ) := h
  obtain ⟨ht, hj, hi, hg, h⟩ := h
  simp only [mz_ch1] at hc
  obtain ⟨hd, hp⟩ := mz_D_ok hc
  obtain ⟨hin, hjn⟩ := mz_inI (mz_H_hd hH) hj
  have ho := mz_wf_o (mz_H_hd (mz_H_tl hH)) (Or.inr (by omega))
  have he : (mz_ws ad cy σ)[ov]? = some (ad ov, .inl (cy (tv - 100), zv, .inr (.inr (.inr (.inr (mz_rw ad σ ov)))))) := by rw [mz_ws_at _ _ _ ho.1, mz_en_r ho.2 ht.1]
  rw [List.map_cons, List.map_cons, mz_v_o (Or.inr (by omega)), mz_v_i]
  have hn := hS.2.2.2.2.2 ov ho.1 (by rw [ho.2]; exact ht.1) (by rw [ho.2]; exact ht.2) j.toNat (by rw [ho.2]; show j.toNat < zv; omega) hi
  rw [ho.2] at hn
  have hrw : mz_rw ad σ ov j.toNat = some (ad (ov + ((mz_ar tv).2.1 + (mz_ar tv).2.2 * j.toNat))) := by
    unfold mz_rw
    rw [ho.2, if_pos ⟨by show j.toNat < zv; omega, hi⟩]
  refine va_aldq hx hb hCx.1 hH.1 ov (tv - 100) he (mz_tys_at ht) hin hd (mz_K_at h hp h1 h2 h3 (mz_H_cons (mz_H_tl (mz_H_tl hH)) (mz_of_wf hn.1 hS.1 hn.2)) ?_)
  rw [List.map_cons, hjn, hrw, mz_v_o (Or.inl (by have := mz_ar_lt ht; omega))]
  rfl

theorem mz_s47 (hF : mz_F p R s m args meth c D cy sK sV vF β k) (hc : mz_ch1 k i 47 a b c9 x9 y9 = true) (h : mz_st1 (fun ls st σ => mz_gr σ σ0 ∧ mz_K p l e R s m args below meth c D cy sK sV vF β Q ade te se k (i + 1) ls st σ) call rt (47, a, b, c9, x9, y9) ls st σ) : mz_K p l e R s m args below meth c D cy sK sV vF β Q ade te se k i ls st σ := by
  obtain ⟨hx, hb, hr, hml, hown, hlk, hnm, hts, hCx, hfr, hlo⟩ := hF
  intro ad lsA H locs h1 h2 h3 hH
  have hA : ∀ q : Nat, s.heap.size ≤ q → β q := hCx.2.2.2.2.2.2.2.1
  have hS := hH.2.2.2.1
  rcases st with _ | ⟨u0, st⟩
  · exact False.elim h
  rcases u0 with w0 | _ | ⟨tu, zu, ou⟩
  case inl => exact False.elim h
  case inr.none => exact False.elim h
  rcases st with _ | ⟨j0, st⟩
  · exact False.elim h
  rcases j0 with j | w0
  case inr => exact False.elim h
  rcases st with _ | ⟨v0, st⟩
  · exact False.elim h
  rcases v0 with w0 | _ | ⟨tv, zv, ov⟩
  case inl => exact False.elim h
  case inr.none => exact False.elim h
  have h : (103 ≤ tv ∧ tv ≤ 105) ∧ (0 ≤ j ∧ j < zv) ∧ (tu = (mz_ar tv).1 ∧ zu = 0 ∧ ou = ov + ((mz_ar tv).2.1 + (mz_ar tv).2.2 * j.toNat)) ∧ (mz_gr (σ.1, σ.2.1, mz_iu σ.2.2.1 ov j.toNat, σ.2.2.2) σ0 ∧ mz_K p l e R s m args below meth c D cy sK sV vF β Q ade te se k (i + 1) ls st (σ.1, σ.2.1, mz_iu σ.2.2.1 ov j.toNat, σ.2.2.2)) := h
  obtain ⟨ht, hj, ⟨htu, hzu, hou⟩, hg, h⟩ := h
  simp only [mz_ch1] at hc
  obtain ⟨hd, hp⟩ := mz_D_ok hc
  obtain ⟨hin, hjn⟩ := mz_inI (mz_H_hd (mz_H_tl hH)) hj
  have htl := mz_ar_lt ht
  have ho := mz_wf_o (mz_H_hd (mz_H_tl (mz_H_tl hH))) (Or.inr (by omega))
  have hou2 := mz_wf_o (mz_H_hd hH) (Or.inl (by omega))
  have he : (mz_ws ad cy σ)[ov]? = some (ad ov, .inl (cy (tv - 100), zv, .inr (.inr (.inr (.inr (mz_rw ad σ ov)))))) := by rw [mz_ws_at _ _ _ ho.1, mz_en_r ho.2 ht.1]
  have he2 : (mz_ws ad cy σ)[ou]? = some (ad ou, .inr (tu, (List.range (mz_nf tu)).map (mz_fv ad σ tu ou))) := by rw [mz_ws_at _ _ _ hou2.1, mz_en_o hou2.2 (by omega)]
  rw [List.map_cons, List.map_cons, List.map_cons, mz_v_o (t := tu) (Or.inl (by omega)), mz_v_o (t := tv) (Or.inr (by omega)), mz_v_i]
  refine va_astq hx hb hCx.1 hH.1 hH.2.1 hH.2.2.1 ov (tv - 100) ou tu (r := (mz_cn tu, mz_T tu, mz_nf tu)) he (by rw [htu]; exact mz_tys_at ht) he2 (mz_cl_at tu (by omega)) hin hd (fun H1 locs1 q1 q2 q3 => ?_)
  have hset : (mz_ws ad cy σ).set ov (ad ov, .inl (cy (tv - 100), zv, .inr (.inr (.inr (.inr (va_up (mz_rw ad σ ov) (Int32.ofInt j).toNatClampNeg (some (ad ou)))))))) = mz_ws ad cy (σ.1, σ.2.1, mz_iu σ.2.2.1 ov j.toNat, σ.2.2.2) := by
    refine mz_ws_set (σ' := (σ.1, σ.2.1, mz_iu σ.2.2.1 ov j.toNat, σ.2.2.2)) rfl ho.1 ?_ (fun q _ hq => mz_en_eq (fun _ => rfl) (fun j => mz_iu_ne hq) (fun _ => rfl))
    rw [mz_en_r ho.2 ht.1, hjn]
    congr 7
    funext q
    unfold va_up mz_rw mz_iu
    rw [ho.2]
    by_cases hq : q = j.toNat
    · subst hq
      simp only [and_self, if_true]
      rw [if_pos (by simp; omega), hou]
    · simp only [true_and, hq, if_false]
  rw [hset] at q1 q2
  refine mz_K_at h hp h1 h2 h3 (mz_H_mem (mz_H_tl (mz_H_tl (mz_H_tl hH))) rfl q1 q2 q3 (mz_wS_iu hS (fun u n f q => ?_) (fun _ _ => ?_))) rfl
  · have hB : ∀ t, 103 ≤ t ∧ t ≤ 105 → ∀ a, a < 100 → mz_fr t a = none := by
      intro t ht a ha
      have hC : ((List.range 3).all fun t => (List.range 100).all fun a => (mz_fr (103 + t) a).isNone) = true := by decide +kernel
      have := List.all_eq_true.mp (List.all_eq_true.mp hC (t - 103) (List.mem_range.mpr (by omega))) a (List.mem_range.mpr ha)
      rw [show 103 + (t - 103) = t by omega] at this
      simpa using this
    have hz : zv < 100 := by
      have hC : (mz_kdL.all fun q => decide (103 ≤ q.1 → q.2 < 100)) = true := by decide +kernel
      have h1 : mz_kd ov ∈ mz_kdL := by
        unfold mz_kd
        rw [List.getD_eq_getElem?_getD, List.getElem?_eq_getElem (by rw [mz_kd_len]; exact Nat.lt_of_lt_of_le ho.1 hS.1)]
        exact List.getElem_mem _
      have := List.all_eq_true.mp hC _ h1
      rw [ho.2, decide_eq_true_eq] at this
      exact this ht.1
    rw [ho.2] at q
    rw [hB tv ht j.toNat (by omega)] at q
    cases q
  · rw [ho.2]
    show ov + ((mz_ar tv).2.1 + (mz_ar tv).2.2 * j.toNat) < σ.1 ∧ mz_kd (ov + ((mz_ar tv).2.1 + (mz_ar tv).2.2 * j.toNat)) = ((mz_ar tv).1, 0)
    rw [← hou, ← htu, ← hzu]
    exact hou2

theorem mz_s48 (hF : mz_F p R s m args meth c D cy sK sV vF β k) (hc : mz_ch1 k i 48 a b c9 x9 y9 = true) (h : mz_st1 (fun ls st σ => mz_gr σ σ0 ∧ mz_K p l e R s m args below meth c D cy sK sV vF β Q ade te se k (i + 1) ls st σ) call rt (48, a, b, c9, x9, y9) ls st σ) : mz_K p l e R s m args below meth c D cy sK sV vF β Q ade te se k i ls st σ := by
  obtain ⟨hx, hb, hr, hml, hown, hlk, hnm, hts, hCx, hfr, hlo⟩ := hF
  intro ad lsA H locs h1 h2 h3 hH
  have hA : ∀ q : Nat, s.heap.size ≤ q → β q := hCx.2.2.2.2.2.2.2.1
  have hS := hH.2.2.2.1
  rcases st with _ | ⟨v0, st⟩
  · exact False.elim h
  rcases v0 with w0 | _ | ⟨tv, zv, ov⟩
  case inl => exact False.elim h
  case inr.none => exact False.elim h
  have h : ((100 ≤ tv ∧ tv ≤ 105) ∨ tv = 91) ∧ (mz_gr σ σ0 ∧ mz_K p l e R s m args below meth c D cy sK sV vF β Q ade te se k (i + 1) ls (.inl zv :: st) σ) := h
  obtain ⟨ht, hg, hN⟩ := h
  simp only [mz_ch1] at hc
  obtain ⟨hd, hp⟩ := mz_D_ok hc
  rcases ht with ht | rfl
  · have ho := mz_wf_o (mz_H_hd hH) (Or.inr (by omega))
    have hz := (mz_kd_ok (Nat.lt_of_lt_of_le ho.1 hS.1)).2
    rw [ho.2] at hz
    have hz : zv < 20000 := hz
    have he : ∃ x, (mz_ws ad cy σ)[ov]? = some (ad ov, .inl (cy (tv - 100), (zv, x))) := by
      rw [mz_ws_at _ _ _ ho.1]
      by_cases h3 : tv < 103
      · exact ⟨_, by rw [mz_en_a ho.2 ⟨ht.1, h3⟩]⟩
      · exact ⟨_, by rw [mz_en_r ho.2 (Nat.not_lt.mp h3)]⟩
    obtain ⟨x, he⟩ := he
    have hty : ∃ ty, (mz_tys cy)[tv - 100]? = some (cy (tv - 100), ty) := by
      rcases (show tv = 100 ∨ tv = 101 ∨ tv = 102 ∨ tv = 103 ∨ tv = 104 ∨ tv = 105 by omega) with rfl | rfl | rfl | rfl | rfl | rfl <;> exact ⟨_, rfl⟩
    obtain ⟨ty, hty⟩ := hty
    rw [List.map_cons, mz_v_o (Or.inr (by omega))]
    exact va_alen hx hb hCx.1 hH.1 ov (tv - 100) he hty (mz_nn zv) hd (mz_K_at hN hp h1 h2 h3 (mz_H_cons (mz_H_tl hH) (show mz_w zv by unfold mz_w; omega)) rfl)
  · have hv : ov < 18 ∧ zv = mz_tl ov := mz_H_hd hH
    have hT := (hCx.2.2.2.1 ov hv.1).2.2.2
    rw [mz_tl_at hv.1, ← hv.2] at hT
    have hw : mz_w (zv : Int) := by
      rw [hv.2]
      have hB : ∀ a, a < 18 → mz_tl a < 1000 := by decide +kernel
      have := hB ov hv.1
      unfold mz_w
      omega
    exact va_tlen (t := sV ov) hx hb hT hH.2.2.1 (mz_nn zv) hd (mz_K_at hN hp h1 h2 h3 (mz_H_cons (mz_H_tl hH) hw) rfl)

theorem mz_kd_lt {o : Nat} (h : (mz_kd o).1 ≠ 999) : o < 167 := by
  by_cases ho : o < 167
  · exact ho
  · exfalso
    apply h
    unfold mz_kd
    rw [List.getD_eq_getElem?_getD, List.getElem?_eq_none (by rw [mz_kd_len]; omega)]
    rfl
def mz_nw9 (σ : mz_S) (n : Nat) : mz_S := (σ.1 + 1, σ.2.1 + n, mz_if σ.2.2.1 σ.1, mz_zr σ.2.2.2 σ.1)
def mz_an (ad : Nat → Nat) (σ : mz_S) (q : Nat) : Nat → Nat := fun o => if o = σ.1 then q else ad o
theorem mz_an_lt {ad : Nat → Nat} {q o : Nat} (h : o < σ.1) : mz_an ad σ q o = ad o := by
  unfold mz_an
  rw [if_neg (by omega)]
theorem mz_wS_new {n : Nat} (h : mz_wS σ) (hk : (mz_kd σ.1).1 ≠ 999) : mz_wS (mz_nw9 σ n) := by
  have hlt := mz_kd_lt hk
  obtain ⟨q1, q2, q3, q4, q5, q6⟩ := h
  refine ⟨hlt, fun o k => ?_, fun o k hh => ?_, fun o k hh => ?_, fun o ho k t n' f hk2 hf hi => ?_, fun o ho ht1 ht2 k hk2 hi => ?_⟩
  · show mz_w (mz_zr σ.2.2.2 σ.1 o k)
    unfold mz_zr
    split
    · exact mz_w0
    · exact q2 _ _
  · show mz_zr σ.2.2.2 σ.1 o k = 0 ∨ mz_zr σ.2.2.2 σ.1 o k = 1
    unfold mz_zr
    split
    · exact Or.inl rfl
    · exact q3 _ _ hh
  · show -128 ≤ mz_zr σ.2.2.2 σ.1 o k ∧ mz_zr σ.2.2.2 σ.1 o k ≤ 127
    unfold mz_zr
    split
    · omega
    · exact q4 _ _ hh
  · have hi : mz_if σ.2.2.1 σ.1 o k = true := hi
    unfold mz_if at hi
    have ho : o < σ.1 + 1 := ho
    split at hi
    · simp at hi
    · obtain ⟨a1, a2⟩ := q5 o (by omega) k t n' f hk2 hf hi
      exact ⟨Nat.lt_succ_of_lt a1, a2⟩
  · have hi : mz_if σ.2.2.1 σ.1 o k = true := hi
    unfold mz_if at hi
    have ho : o < σ.1 + 1 := ho
    split at hi
    · simp at hi
    · obtain ⟨a1, a2⟩ := q6 o (by omega) ht1 ht2 k hk2 hi
      exact ⟨Nat.lt_succ_of_lt a1, a2⟩
theorem mz_en_new {ad : Nat → Nat} {q n o : Nat} (h : mz_wS σ) (ho : o < σ.1) : mz_en (mz_an ad σ q) cy (mz_nw9 σ n) o = mz_en ad cy σ o := by
  have hne : o ≠ σ.1 := by omega
  have em : ∀ k, (mz_nw9 σ n).2.2.2 o k = σ.2.2.2 o k := fun k => by show mz_zr σ.2.2.2 σ.1 o k = _; unfold mz_zr; rw [if_neg hne]
  have ei : ∀ k, (mz_nw9 σ n).2.2.1 o k = σ.2.2.1 o k := fun k => by show mz_if σ.2.2.1 σ.1 o k = _; unfold mz_if; rw [if_neg hne]
  unfold mz_en
  by_cases h1 : (mz_kd o).1 < 10
  · rw [if_pos h1, if_pos h1]
    congr 2
    apply List.map_congr_left
    intro k hk
    have hk := List.mem_range.mp hk
    unfold mz_fv
    rw [ei, em]
    cases hf : mz_fr (mz_kd o).1 k with
    | none => rfl
    | some x =>
      obtain ⟨t, n', f⟩ := x
      simp only
      by_cases hi : σ.2.2.1 o k = true
      · rw [if_pos hi, if_pos hi, mz_an_lt (h.2.2.2.2.1 o ho k t n' f hk hf hi).1]
      · rw [if_neg hi, if_neg hi]
  · rw [if_neg h1, if_neg h1]
    by_cases h2 : (mz_kd o).1 < 103
    · rw [if_pos h2, if_pos h2]
      simp only [em]
    · rw [if_neg h2, if_neg h2]
      congr 7
      funext k
      unfold mz_rw
      rw [ei]
      by_cases hi : k < (mz_kd o).2 ∧ σ.2.2.1 o k = true
      · have hk := (mz_kd_ok (Nat.lt_of_lt_of_le ho h.1)).1
        rw [if_pos hi, if_pos hi, mz_an_lt (h.2.2.2.2.2 o ho (by omega) (by omega) k hi.1 hi.2).1]
      · rw [if_neg hi, if_neg hi]
theorem mz_ws_new {ad : Nat → Nat} {q n : Nat} {e : va_E} (h : mz_wS σ) (he : mz_en (mz_an ad σ q) cy (mz_nw9 σ n) σ.1 = e) : mz_ws ad cy σ ++ [(q, e)] = mz_ws (mz_an ad σ q) cy (mz_nw9 σ n) := by
  unfold mz_ws
  show _ = (List.range (σ.1 + 1)).map _
  rw [List.range_succ, List.map_append]
  congr 1
  · apply List.map_congr_left
    intro o ho
    have ho := List.mem_range.mp ho
    rw [mz_en_new h ho, mz_an_lt ho]
  · rw [List.map_singleton, he]
    unfold mz_an
    rw [if_pos rfl]
theorem mz_H_new {s : State} {ad : Nat → Nat} {lsA : Array Slot} {H H1 : Heap} {locs locs1 : List Loc} {q n : Nat} (hH : mz_H s D cy sK sV vF β k ad σ ls st lsA H locs) (hk : (mz_kd σ.1).1 ≠ 999) (hP : va_P D vwCl (mz_ws (mz_an ad σ q) cy (mz_nw9 σ n)) H1) (hD : va_D β (mz_ws (mz_an ad σ q) cy (mz_nw9 σ n))) (hS : va_S β s.heap H1 locs1) :
    mz_H s D cy sK sV vF β k (mz_an ad σ q) (mz_nw9 σ n) ls st lsA H1 locs1 := by
  refine ⟨hP, hD, hS, mz_wS_new hH.2.2.2.1 hk, fun v hv => mz_wf_mono (Nat.le_succ _) (mz_H_wf hH hv), fun a v hv => mz_wf_mono (Nat.le_succ _) (mz_H_ls hH hv), ?_, hH.2.2.2.2.2.2.2⟩
  have h7 := hH.2.2.2.2.2.2.1
  refine ⟨h7.1, h7.2.1, fun z hz => ?_⟩
  obtain ⟨v, e1, e2⟩ := mz_lv_mem.mp hz
  rw [mz_v_ext (fun o ho => mz_an_lt ho) (mz_H_ls hH e1)] at e2
  exact h7.2.2 z (mz_lv_mem.mpr ⟨v, e1, e2⟩)
theorem mz_st_new {ad : Nat → Nat} {q : Nat} {s : State} {lsA : Array Slot} {H : Heap} {locs : List Loc} (hH : mz_H s D cy sK sV vF β k ad σ ls st lsA H locs) : st.map (mz_v (mz_an ad σ q) sK sV vF) = st.map (mz_v ad sK sV vF) :=
  List.map_congr_left fun v hv => mz_v_ext (fun o ho => mz_an_lt ho) (mz_H_wf hH hv)

theorem mz_s58 (hR : R.cells = σ0.1 - te ∧ R.slots = σ0.2.1 - se) (hF : mz_F p R s m args meth c D cy sK sV vF β k) (hc : mz_ch1 k i 58 a b c9 x9 y9 = true) (h : mz_st1 (fun ls st σ => mz_gr σ σ0 ∧ mz_K p l e R s m args below meth c D cy sK sV vF β Q ade te se k (i + 1) ls st σ) call rt (58, a, b, c9, x9, y9) ls st σ) : mz_K p l e R s m args below meth c D cy sK sV vF β Q ade te se k i ls st σ := by
  obtain ⟨hx, hb, hr, hml, hown, hlk, hnm, hts, hCx, hfr, hlo⟩ := hF
  intro ad lsA H locs h1 h2 h3 hH
  have hA : ∀ q : Nat, s.heap.size ≤ q → β q := hCx.2.2.2.2.2.2.2.1
  have hS := hH.2.2.2.1
  have h : mz_kd σ.1 = (a, 0) ∧ (mz_gr (mz_nw9 σ (mz_nf a)) σ0 ∧ mz_K p l e R s m args below meth c D cy sK sV vF β Q ade te se k (i + 1) ls (.inr (some (a, 0, σ.1)) :: st) (mz_nw9 σ (mz_nf a))) := h
  obtain ⟨hkd, hg, h⟩ := h
  simp only [mz_ch1, Bool.and_eq_true, decide_eq_true_eq] at hc
  obtain ⟨⟨hc, hw⟩, ha⟩ := hc
  obtain ⟨hd, hp⟩ := mz_D_ok hc
  have hw9 : mz_wf (mz_nw9 σ (mz_nf a)) (.inr (some (a, 0, σ.1))) := mz_of_wf (Nat.lt_succ_self _) (mz_wS_new (n := (mz_nf a)) hS (by rw [hkd]; show a ≠ 999; omega)).1 hkd
  have hc9 : ∀ q, (.inr (some (a, 0, σ.1)) :: st).map (mz_v (mz_an ad σ q) sK sV vF) = .ref q :: st.map (mz_v ad sK sV vF) := fun q => by
    rw [List.map_cons, mz_st_new hH, mz_v_o (by omega)]
    unfold mz_an
    rw [if_pos rfl]
  have hg1 : σ.1 + 1 ≤ σ0.1 := hg.1
  have hg2 : σ.2.1 + (mz_nf a) ≤ σ0.2.1 := hg.2
  have ec : σ.1 - te + 1 = (mz_nw9 σ (mz_nf a)).1 - te := by show _ = σ.1 + 1 - te; omega
  have es : σ.2.1 - se + (mz_nf a) = (mz_nw9 σ (mz_nf a)).2.1 - se := by show _ = σ.2.1 + (mz_nf a) - se; omega
  refine va_new hx hb hts (mz_hin ha) (mz_ty a) (mz_hty ha) hown (hts _ (mz_W_ok hw)) (hts _ (mz_ins ha).1) (hts _ (mz_ins ha).2) hCx.1 hH.1 hH.2.1 hH.2.2.1 hA (mz_cl_at a ha) (fs := (List.range (mz_nf a)).map (fun j => defaultValue (mz_ty a j))) (fun j hj => by simp [vp_V, List.getD_eq_getElem?_getD, hj]) (by rw [hR.1]; omega) (by rw [hR.2]; omega) hd (fun q H1 q1 q2 q3 => ?_)
  have hset : mz_ws ad cy σ ++ [(q, .inr (a, (List.range (mz_nf a)).map (fun j => defaultValue (mz_ty a j))))] = mz_ws (mz_an ad σ q) cy (mz_nw9 σ (mz_nf a)) := by
    refine mz_ws_new hS ?_
    rw [mz_en_o hkd ha]
    congr 2
    apply List.map_congr_left
    intro j hj
    have hj := List.mem_range.mp hj
    unfold mz_fv
    show (match mz_fr a j with | some (_, _, f) => if mz_if σ.2.2.1 σ.1 σ.1 j = true then _ else _ | none => Value.int (Int32.ofInt (mz_zr σ.2.2.2 σ.1 σ.1 j))) = _
    unfold mz_if mz_zr
    cases hf : mz_fr a j with
    | none => simp only [if_true]; rw [mz_tyI ha hj hf]; rfl
    | some x =>
      obtain ⟨t, n', f⟩ := x
      simp only [if_true]
      rcases mz_tyR ha hj (by rw [hf]; rfl) with ⟨n, hn⟩ | ⟨n, hn⟩ <;> rw [hn] <;> rfl
  rw [hset] at q1 q2
  rw [ec, es]
  exact mz_K_at h hp (fun o ho => by rw [mz_an_lt (Nat.lt_of_lt_of_le ho h2)]; exact h1 o ho) (Nat.le_succ_of_le h2) (Nat.le_trans h3 (Nat.le_add_right _ _)) (mz_H_cons (mz_H_new hH (by rw [hkd]; show a ≠ 999; omega) q1 q2 q3) hw9) (hc9 q)

theorem mz_s59 (hR : R.cells = σ0.1 - te ∧ R.slots = σ0.2.1 - se) (hF : mz_F p R s m args meth c D cy sK sV vF β k) (hc : mz_ch1 k i 59 a b c9 x9 y9 = true) (h : mz_st1 (fun ls st σ => mz_gr σ σ0 ∧ mz_K p l e R s m args below meth c D cy sK sV vF β Q ade te se k (i + 1) ls st σ) call rt (59, a, b, c9, x9, y9) ls st σ) : mz_K p l e R s m args below meth c D cy sK sV vF β Q ade te se k i ls st σ := by
  obtain ⟨hx, hb, hr, hml, hown, hlk, hnm, hts, hCx, hfr, hlo⟩ := hF
  intro ad lsA H locs h1 h2 h3 hH
  have hA : ∀ q : Nat, s.heap.size ≤ q → β q := hCx.2.2.2.2.2.2.2.1
  have hS := hH.2.2.2.1
  rcases st with _ | ⟨u0, st⟩
  · exact False.elim h
  rcases u0 with u | w0
  case inr => exact False.elim h
  have h : (0 ≤ u ∧ u ≤ 100000) ∧ mz_kd σ.1 = (100, u.toNat) ∧ (mz_gr (mz_nw9 σ u.toNat) σ0 ∧ mz_K p l e R s m args below meth c D cy sK sV vF β Q ade te se k (i + 1) ls (.inr (some (100, u.toNat, σ.1)) :: st) (mz_nw9 σ u.toNat)) := h
  obtain ⟨hu, hkd, hg, h⟩ := h
  simp only [mz_ch1] at hc
  have hH9 := hH
  have hH := mz_H_tl hH
  obtain ⟨hd, hp⟩ := mz_D_ok hc
  have hw9 : mz_wf (mz_nw9 σ u.toNat) (.inr (some (100, u.toNat, σ.1))) := mz_of_wf (Nat.lt_succ_self _) (mz_wS_new (n := u.toNat) hS (by rw [hkd]; show 100 ≠ 999; omega)).1 hkd
  have hc9 : ∀ q, (.inr (some (100, u.toNat, σ.1)) :: st).map (mz_v (mz_an ad σ q) sK sV vF) = .ref q :: st.map (mz_v ad sK sV vF) := fun q => by
    rw [List.map_cons, mz_st_new hH, mz_v_o (by omega)]
    unfold mz_an
    rw [if_pos rfl]
  have hg1 : σ.1 + 1 ≤ σ0.1 := hg.1
  have hg2 : σ.2.1 + u.toNat ≤ σ0.2.1 := hg.2
  have ec : σ.1 - te + 1 = (mz_nw9 σ u.toNat).1 - te := by show _ = σ.1 + 1 - te; omega
  have es : σ.2.1 - se + u.toNat = (mz_nw9 σ u.toNat).2.1 - se := by show _ = σ.2.1 + u.toNat - se; omega
  rw [List.map_cons, mz_v_i]
  have eu : (Int32.ofInt u).toInt = u := mz_t (mz_H_hd hH9)
  refine va_newa (atype := .int) (ty := .int) hx hb (hts _ mz_wd0) rfl hCx.1 hH.1 hH.2.1 hH.2.2.1 hA (N' := u.toNat) (a0 := (u.toNat, .inl (fun _ => 0))) (fun cA => by rw [vp_cell_i]; rfl) (by rw [Int32.lt_iff_toInt_lt, eu]; show ¬ u < 0; omega) (by show (Int32.ofInt u).toInt.toNat = _; rw [eu]) (by show u.toNat * _ ≤ _; simp [componentBytes]; omega) (by rw [hR.1]; omega) (by rw [hR.2]; omega) hd (fun q cA H1 q0 q1 q2 q3 => ?_)
  have hcA : cA = cy 0 := by
    have e1 := (q0.2 6 (cA, .int) rfl).2
    have e2 := (hCx.1.2 0 (cy 0, .int) rfl).2
    exact Option.some.inj (e1.symm.trans e2)
  subst hcA
  have hset : mz_ws ad cy σ ++ [(q, .inl (cy 0, (u.toNat, .inl (fun _ => 0))))] = mz_ws (mz_an ad σ q) cy (mz_nw9 σ u.toNat) := by
    refine mz_ws_new hS ?_
    rw [mz_en_a hkd (by omega)]
    congr 4
    funext j
    show Int32.ofInt (mz_zr σ.2.2.2 σ.1 σ.1 j) = 0
    unfold mz_zr
    rw [if_pos rfl]
    rfl
  rw [hset] at q1 q2
  rw [ec, es]
  exact mz_K_at h hp (fun o ho => by rw [mz_an_lt (Nat.lt_of_lt_of_le ho h2)]; exact h1 o ho) (Nat.le_succ_of_le h2) (Nat.le_trans h3 (Nat.le_add_right _ _)) (mz_H_cons (mz_H_new hH (by rw [hkd]; simp) q1 q2 q3) hw9) (hc9 q)

theorem mz_s60 (hR : R.cells = σ0.1 - te ∧ R.slots = σ0.2.1 - se) (hF : mz_F p R s m args meth c D cy sK sV vF β k) (hc : mz_ch1 k i 60 a b c9 x9 y9 = true) (h : mz_st1 (fun ls st σ => mz_gr σ σ0 ∧ mz_K p l e R s m args below meth c D cy sK sV vF β Q ade te se k (i + 1) ls st σ) call rt (60, a, b, c9, x9, y9) ls st σ) : mz_K p l e R s m args below meth c D cy sK sV vF β Q ade te se k i ls st σ := by
  obtain ⟨hx, hb, hr, hml, hown, hlk, hnm, hts, hCx, hfr, hlo⟩ := hF
  intro ad lsA H locs h1 h2 h3 hH
  have hA : ∀ q : Nat, s.heap.size ≤ q → β q := hCx.2.2.2.2.2.2.2.1
  have hS := hH.2.2.2.1
  rcases st with _ | ⟨u0, st⟩
  · exact False.elim h
  rcases u0 with u | w0
  case inr => exact False.elim h
  have h : (0 ≤ u ∧ u ≤ 100000) ∧ mz_kd σ.1 = (101, u.toNat) ∧ (mz_gr (mz_nw9 σ u.toNat) σ0 ∧ mz_K p l e R s m args below meth c D cy sK sV vF β Q ade te se k (i + 1) ls (.inr (some (101, u.toNat, σ.1)) :: st) (mz_nw9 σ u.toNat)) := h
  obtain ⟨hu, hkd, hg, h⟩ := h
  simp only [mz_ch1] at hc
  have hH9 := hH
  have hH := mz_H_tl hH
  obtain ⟨hd, hp⟩ := mz_D_ok hc
  have hw9 : mz_wf (mz_nw9 σ u.toNat) (.inr (some (101, u.toNat, σ.1))) := mz_of_wf (Nat.lt_succ_self _) (mz_wS_new (n := u.toNat) hS (by rw [hkd]; show 101 ≠ 999; omega)).1 hkd
  have hc9 : ∀ q, (.inr (some (101, u.toNat, σ.1)) :: st).map (mz_v (mz_an ad σ q) sK sV vF) = .ref q :: st.map (mz_v ad sK sV vF) := fun q => by
    rw [List.map_cons, mz_st_new hH, mz_v_o (by omega)]
    unfold mz_an
    rw [if_pos rfl]
  have hg1 : σ.1 + 1 ≤ σ0.1 := hg.1
  have hg2 : σ.2.1 + u.toNat ≤ σ0.2.1 := hg.2
  have ec : σ.1 - te + 1 = (mz_nw9 σ u.toNat).1 - te := by show _ = σ.1 + 1 - te; omega
  have es : σ.2.1 - se + u.toNat = (mz_nw9 σ u.toNat).2.1 - se := by show _ = σ.2.1 + u.toNat - se; omega
  rw [List.map_cons, mz_v_i]
  have eu : (Int32.ofInt u).toInt = u := mz_t (mz_H_hd hH9)
  refine va_newa (atype := .boolean) (ty := .boolean) hx hb (hts _ mz_wd1) rfl hCx.1 hH.1 hH.2.1 hH.2.2.1 hA (N' := u.toNat) (a0 := (u.toNat, .inl (fun _ => 0))) (fun cA => by rw [vp_cell_i]; rfl) (by rw [Int32.lt_iff_toInt_lt, eu]; show ¬ u < 0; omega) (by show (Int32.ofInt u).toInt.toNat = _; rw [eu]) (by show u.toNat * _ ≤ _; simp [componentBytes]; omega) (by rw [hR.1]; omega) (by rw [hR.2]; omega) hd (fun q cA H1 q0 q1 q2 q3 => ?_)
  have hcA : cA = cy 1 := by
    have e1 := (q0.2 6 (cA, .boolean) rfl).2
    have e2 := (hCx.1.2 1 (cy 1, .boolean) rfl).2
    exact Option.some.inj (e1.symm.trans e2)
  subst hcA
  have hset : mz_ws ad cy σ ++ [(q, .inl (cy 1, (u.toNat, .inl (fun _ => 0))))] = mz_ws (mz_an ad σ q) cy (mz_nw9 σ u.toNat) := by
    refine mz_ws_new hS ?_
    rw [mz_en_a hkd (by omega)]
    congr 4
    funext j
    show Int32.ofInt (mz_zr σ.2.2.2 σ.1 σ.1 j) = 0
    unfold mz_zr
    rw [if_pos rfl]
    rfl
  rw [hset] at q1 q2
  rw [ec, es]
  exact mz_K_at h hp (fun o ho => by rw [mz_an_lt (Nat.lt_of_lt_of_le ho h2)]; exact h1 o ho) (Nat.le_succ_of_le h2) (Nat.le_trans h3 (Nat.le_add_right _ _)) (mz_H_cons (mz_H_new hH (by rw [hkd]; simp) q1 q2 q3) hw9) (hc9 q)

theorem mz_s61 (hR : R.cells = σ0.1 - te ∧ R.slots = σ0.2.1 - se) (hF : mz_F p R s m args meth c D cy sK sV vF β k) (hc : mz_ch1 k i 61 a b c9 x9 y9 = true) (h : mz_st1 (fun ls st σ => mz_gr σ σ0 ∧ mz_K p l e R s m args below meth c D cy sK sV vF β Q ade te se k (i + 1) ls st σ) call rt (61, a, b, c9, x9, y9) ls st σ) : mz_K p l e R s m args below meth c D cy sK sV vF β Q ade te se k i ls st σ := by
  obtain ⟨hx, hb, hr, hml, hown, hlk, hnm, hts, hCx, hfr, hlo⟩ := hF
  intro ad lsA H locs h1 h2 h3 hH
  have hA : ∀ q : Nat, s.heap.size ≤ q → β q := hCx.2.2.2.2.2.2.2.1
  have hS := hH.2.2.2.1
  rcases st with _ | ⟨u0, st⟩
  · exact False.elim h
  rcases u0 with u | w0
  case inr => exact False.elim h
  have h : (0 ≤ u ∧ u ≤ 100000) ∧ mz_kd σ.1 = (102, u.toNat) ∧ (mz_gr (mz_nw9 σ u.toNat) σ0 ∧ mz_K p l e R s m args below meth c D cy sK sV vF β Q ade te se k (i + 1) ls (.inr (some (102, u.toNat, σ.1)) :: st) (mz_nw9 σ u.toNat)) := h
  obtain ⟨hu, hkd, hg, h⟩ := h
  simp only [mz_ch1] at hc
  have hH9 := hH
  have hH := mz_H_tl hH
  obtain ⟨hd, hp⟩ := mz_D_ok hc
  have hw9 : mz_wf (mz_nw9 σ u.toNat) (.inr (some (102, u.toNat, σ.1))) := mz_of_wf (Nat.lt_succ_self _) (mz_wS_new (n := u.toNat) hS (by rw [hkd]; show 102 ≠ 999; omega)).1 hkd
  have hc9 : ∀ q, (.inr (some (102, u.toNat, σ.1)) :: st).map (mz_v (mz_an ad σ q) sK sV vF) = .ref q :: st.map (mz_v ad sK sV vF) := fun q => by
    rw [List.map_cons, mz_st_new hH, mz_v_o (by omega)]
    unfold mz_an
    rw [if_pos rfl]
  have hg1 : σ.1 + 1 ≤ σ0.1 := hg.1
  have hg2 : σ.2.1 + u.toNat ≤ σ0.2.1 := hg.2
  have ec : σ.1 - te + 1 = (mz_nw9 σ u.toNat).1 - te := by show _ = σ.1 + 1 - te; omega
  have es : σ.2.1 - se + u.toNat = (mz_nw9 σ u.toNat).2.1 - se := by show _ = σ.2.1 + u.toNat - se; omega
  rw [List.map_cons, mz_v_i]
  have eu : (Int32.ofInt u).toInt = u := mz_t (mz_H_hd hH9)
  refine va_newa (atype := .byte) (ty := .byte) hx hb (hts _ mz_wd2) rfl hCx.1 hH.1 hH.2.1 hH.2.2.1 hA (N' := u.toNat) (a0 := (u.toNat, .inl (fun _ => 0))) (fun cA => by rw [vp_cell_i]; rfl) (by rw [Int32.lt_iff_toInt_lt, eu]; show ¬ u < 0; omega) (by show (Int32.ofInt u).toInt.toNat = _; rw [eu]) (by show u.toNat * _ ≤ _; simp [componentBytes]; omega) (by rw [hR.1]; omega) (by rw [hR.2]; omega) hd (fun q cA H1 q0 q1 q2 q3 => ?_)
  have hcA : cA = cy 2 := by
    have e1 := (q0.2 6 (cA, .byte) rfl).2
    have e2 := (hCx.1.2 2 (cy 2, .byte) rfl).2
    exact Option.some.inj (e1.symm.trans e2)
  subst hcA
  have hset : mz_ws ad cy σ ++ [(q, .inl (cy 2, (u.toNat, .inl (fun _ => 0))))] = mz_ws (mz_an ad σ q) cy (mz_nw9 σ u.toNat) := by
    refine mz_ws_new hS ?_
    rw [mz_en_a hkd (by omega)]
    congr 4
    funext j
    show Int32.ofInt (mz_zr σ.2.2.2 σ.1 σ.1 j) = 0
    unfold mz_zr
    rw [if_pos rfl]
    rfl
  rw [hset] at q1 q2
  rw [ec, es]
  exact mz_K_at h hp (fun o ho => by rw [mz_an_lt (Nat.lt_of_lt_of_le ho h2)]; exact h1 o ho) (Nat.le_succ_of_le h2) (Nat.le_trans h3 (Nat.le_add_right _ _)) (mz_H_cons (mz_H_new hH (by rw [hkd]; simp) q1 q2 q3) hw9) (hc9 q)

theorem mz_s62 (hR : R.cells = σ0.1 - te ∧ R.slots = σ0.2.1 - se) (hF : mz_F p R s m args meth c D cy sK sV vF β k) (hc : mz_ch1 k i 62 a b c9 x9 y9 = true) (h : mz_st1 (fun ls st σ => mz_gr σ σ0 ∧ mz_K p l e R s m args below meth c D cy sK sV vF β Q ade te se k (i + 1) ls st σ) call rt (62, a, b, c9, x9, y9) ls st σ) : mz_K p l e R s m args below meth c D cy sK sV vF β Q ade te se k i ls st σ := by
  obtain ⟨hx, hb, hr, hml, hown, hlk, hnm, hts, hCx, hfr, hlo⟩ := hF
  intro ad lsA H locs h1 h2 h3 hH
  have hA : ∀ q : Nat, s.heap.size ≤ q → β q := hCx.2.2.2.2.2.2.2.1
  have hS := hH.2.2.2.1
  rcases st with _ | ⟨u0, st⟩
  · exact False.elim h
  rcases u0 with u | w0
  case inr => exact False.elim h
  have h : (103 ≤ a ∧ a ≤ 105) ∧ (0 ≤ u ∧ u ≤ 100000) ∧ mz_kd σ.1 = (a, u.toNat) ∧ (mz_gr (mz_nw9 σ u.toNat) σ0 ∧ mz_K p l e R s m args below meth c D cy sK sV vF β Q ade te se k (i + 1) ls (.inr (some (a, u.toNat, σ.1)) :: st) (mz_nw9 σ u.toNat)) := h
  obtain ⟨ha, hu, hkd, hg, h⟩ := h
  simp only [mz_ch1, Bool.and_eq_true] at hc
  obtain ⟨hc, hw⟩ := hc
  have hH9 := hH
  have hH := mz_H_tl hH
  obtain ⟨hd, hp⟩ := mz_D_ok hc
  have hw9 : mz_wf (mz_nw9 σ u.toNat) (.inr (some (a, u.toNat, σ.1))) := mz_of_wf (Nat.lt_succ_self _) (mz_wS_new (n := u.toNat) hS (by rw [hkd]; show a ≠ 999; omega)).1 hkd
  have hc9 : ∀ q, (.inr (some (a, u.toNat, σ.1)) :: st).map (mz_v (mz_an ad σ q) sK sV vF) = .ref q :: st.map (mz_v ad sK sV vF) := fun q => by
    rw [List.map_cons, mz_st_new hH, mz_v_o (by omega)]
    unfold mz_an
    rw [if_pos rfl]
  have hg1 : σ.1 + 1 ≤ σ0.1 := hg.1
  have hg2 : σ.2.1 + u.toNat ≤ σ0.2.1 := hg.2
  have ec : σ.1 - te + 1 = (mz_nw9 σ u.toNat).1 - te := by show _ = σ.1 + 1 - te; omega
  have es : σ.2.1 - se + u.toNat = (mz_nw9 σ u.toNat).2.1 - se := by show _ = σ.2.1 + u.toNat - se; omega
  rw [List.map_cons, mz_v_i]
  have eu : (Int32.ofInt u).toInt = u := mz_t (mz_H_hd hH9)
  have hAO : va_AO (mz_cn (mz_ar a).1) s := by
    rcases (show a = 103 ∨ a = 104 ∨ a = 105 by omega) with rfl | rfl | rfl
    · exact hCx.2.2.2.2.2.2.2.2.1
    · exact hCx.2.2.2.2.2.2.2.2.2.1
    · exact hCx.2.2.2.2.2.2.2.2.2.2
  refine va_newq hx hb hown (hts _ (mz_W_ok hw)) hAO hCx.1 hH.1 hH.2.1 hH.2.2.1 hA (N' := u.toNat) (by rw [Int32.lt_iff_toInt_lt, eu]; show ¬ u < 0; omega) (by show (Int32.ofInt u).toInt.toNat = _; rw [eu]) (by omega) (by rw [hR.1]; omega) (by rw [hR.2]; omega) hd (fun q cA H1 q0 q1 q2 q3 => ?_)
  have hcA : cA = cy (a - 100) := by
    obtain ⟨kA, comp, -, -, -, e1⟩ := (q0.2 6 (cA, .object (mz_cn (mz_ar a).1)) rfl).2
    obtain ⟨kA', comp', -, -, -, e2⟩ := (hCx.1.2 (a - 100) (cy (a - 100), .object (mz_cn (mz_ar a).1)) (mz_tys_at ha)).2
    exact Option.some.inj (e1.symm.trans e2)
  subst hcA
  have hset : mz_ws ad cy σ ++ [(q, .inl (cy (a - 100), u.toNat, .inr (.inr (.inr (.inr (fun _ => none))))))] = mz_ws (mz_an ad σ q) cy (mz_nw9 σ u.toNat) := by
    refine mz_ws_new hS ?_
    rw [mz_en_r hkd ha.1]
    congr 7
    funext j
    unfold mz_rw
    rw [if_neg]
    rintro ⟨-, q⟩
    have q : mz_if σ.2.2.1 σ.1 σ.1 j = true := q
    unfold mz_if at q
    rw [if_pos rfl] at q
    cases q
  rw [hset] at q1 q2
  rw [ec, es]
  exact mz_K_at h hp (fun o ho => by rw [mz_an_lt (Nat.lt_of_lt_of_le ho h2)]; exact h1 o ho) (Nat.le_succ_of_le h2) (Nat.le_trans h3 (Nat.le_add_right _ _)) (mz_H_cons (mz_H_new hH (by rw [hkd]; show a ≠ 999; omega) q1 q2 q3) hw9) (hc9 q)

end Sn5
