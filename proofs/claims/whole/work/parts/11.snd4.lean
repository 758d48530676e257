/-! The operations that read or write cells, one by one. -/
section Sn4
variable {p : Program} {l : Launch} {e : Env} {R : Room} {s : State} {m : MethodId} {args : Array Value} {below : List Frame} {meth : Method} {c : Code} {D : va_G} {cy : Nat → ClassId} {sK sV : Nat → Nat} {vF : Value} {β : Nat → Prop} {Q : State → Prop} {ade : Nat → Nat} {te se : Nat} {k i a c9 x9 y9 : Nat} {b : Int} {σ σ0 : mz_S} {ls : mz_Ls} {st : List mz_V} {call : Nat → List mz_V → mz_S → (Option mz_V → mz_S → Prop) → Prop} {rt : Option mz_V → mz_S → Prop}
theorem mz_H_mem {s : State} {ad : Nat → Nat} {σ' : mz_S} {lsA : Array Slot} {H H1 : Heap} {locs locs1 : List Loc} (hH : mz_H s D cy sK sV vF β k ad σ ls st lsA H locs) (e : σ'.1 = σ.1) (hP : va_P D vwCl (mz_ws ad cy σ') H1) (hD : va_D β (mz_ws ad cy σ')) (hS : va_S β s.heap H1 locs1) (hw : mz_wS σ') : mz_H s D cy sK sV vF β k ad σ' ls st lsA H1 locs1 :=
  ⟨hP, hD, hS, hw, fun v hv => mz_wf_mono (by rw [e]; exact Nat.le_refl _) (mz_H_wf hH hv), fun a v hv => mz_wf_mono (by rw [e]; exact Nat.le_refl _) (mz_H_ls hH hv), hH.2.2.2.2.2.2.1, hH.2.2.2.2.2.2.2⟩
theorem mz_wS_up {o a : Nat} {v : Int} (h : mz_wS σ) (hv : mz_w v) (h1 : (mz_kd o).1 = 101 → v = 0 ∨ v = 1) (h2 : (mz_kd o).1 = 102 → -128 ≤ v ∧ v ≤ 127) : mz_wS (σ.1, σ.2.1, σ.2.2.1, mz_up σ.2.2.2 o a v) := by
  obtain ⟨q1, q2, q3, q4, q5, q6⟩ := h
  refine ⟨q1, fun o' k' => ?_, fun o' k' hk => ?_, fun o' k' hk => ?_, q5, q6⟩
  · show mz_w (mz_up σ.2.2.2 o a v o' k')
    unfold mz_up
    split
    · exact hv
    · exact q2 _ _
  · show mz_up σ.2.2.2 o a v o' k' = 0 ∨ mz_up σ.2.2.2 o a v o' k' = 1
    unfold mz_up
    split
    · rename_i hh; rw [hh.1] at hk; exact h1 hk
    · exact q3 _ _ hk
  · show -128 ≤ mz_up σ.2.2.2 o a v o' k' ∧ mz_up σ.2.2.2 o a v o' k' ≤ 127
    unfold mz_up
    split
    · rename_i hh; rw [hh.1] at hk; exact h2 hk
    · exact q4 _ _ hk
theorem mz_up_ne {M : mz_M} {o a q j : Nat} {v : Int} (h : q ≠ o) : mz_up M o a v q j = M q j := by
  unfold mz_up
  rw [if_neg (fun hh => h hh.1)]
theorem mz_iu_ne {M : Nat → Nat → Bool} {o a q j : Nat} (h : q ≠ o) : mz_iu M o a q j = M q j := by
  unfold mz_iu
  rw [if_neg (fun hh => h hh.1)]

theorem mz_s36 (hF : mz_F p R s m args meth c D cy sK sV vF β k) (hc : mz_ch1 k i 36 a b c9 x9 y9 = true) (h : mz_st1 (fun ls st σ => mz_gr σ σ0 ∧ mz_K p l e R s m args below meth c D cy sK sV vF β Q ade te se k (i + 1) ls st σ) call rt (36, a, b, c9, x9, y9) ls st σ) : mz_K p l e R s m args below meth c D cy sK sV vF β Q ade te se k i ls st σ := by
  obtain ⟨hx, hb, hr, hml, hown, hlk, hnm, hts, hCx, hfr, hlo⟩ := hF
  intro ad lsA H locs h1 h2 h3 hH
  have hA : ∀ q : Nat, s.heap.size ≤ q → β q := hCx.2.2.2.2.2.2.2.1
  have hS := hH.2.2.2.1
  rcases st with _ | ⟨v0, st⟩
  · exact False.elim h
  rcases v0 with w0 | _ | ⟨tv, zv, ov⟩
  case inl => exact False.elim h
  case inr.none => exact False.elim h
  have h : tv = c9 ∧ (mz_gr σ σ0 ∧ mz_K p l e R s m args below meth c D cy sK sV vF β Q ade te se k (i + 1) ls (.inl (σ.2.2.2 ov a) :: st) σ) := h
  obtain ⟨rfl, hg, h⟩ := h
  simp only [mz_ch1, mz_isI, Bool.and_eq_true, decide_eq_true_eq] at hc
  obtain ⟨⟨hc, hw⟩, ⟨⟨ha, ht⟩, hty⟩, hf⟩ := hc
  obtain ⟨hd, hp⟩ := mz_D_ok hc
  have ho := mz_wf_o (mz_H_hd hH) (Or.inl (by omega))
  have he : (mz_ws ad cy σ)[ov]? = some (ad ov, .inr (tv, (List.range (mz_nf tv)).map (mz_fv ad σ tv ov))) := by rw [mz_ws_at _ _ _ ho.1, mz_en_o ho.2 ht]
  rw [List.map_cons, mz_v_o (Or.inl (by omega))]
  exact va_get hx hb hts (mz_hin ht) hown hCx.1 hH.1 ov he (mz_cl_at tv ht) a ha (ref := (mz_T tv a).1) (hts _ (mz_W_ok hw)) (fun _ q => q) (v := .int (Int32.ofInt (σ.2.2.2 ov a))) (by simp [ha, mz_fv, hf]) hd (mz_K_at h hp h1 h2 h3 (mz_H_cons (mz_H_tl hH) (hS.2.1 _ _)) rfl)

theorem mz_s37 (hF : mz_F p R s m args meth c D cy sK sV vF β k) (hc : mz_ch1 k i 37 a b c9 x9 y9 = true) (h : mz_st1 (fun ls st σ => mz_gr σ σ0 ∧ mz_K p l e R s m args below meth c D cy sK sV vF β Q ade te se k (i + 1) ls st σ) call rt (37, a, b, c9, x9, y9) ls st σ) : mz_K p l e R s m args below meth c D cy sK sV vF β Q ade te se k i ls st σ := by
  obtain ⟨hx, hb, hr, hml, hown, hlk, hnm, hts, hCx, hfr, hlo⟩ := hF
  intro ad lsA H locs h1 h2 h3 hH
  have hA : ∀ q : Nat, s.heap.size ≤ q → β q := hCx.2.2.2.2.2.2.2.1
  have hS := hH.2.2.2.1
  rcases st with _ | ⟨v0, st⟩
  · exact False.elim h
  rcases v0 with w0 | _ | ⟨tv, zv, ov⟩
  case inl => exact False.elim h
  case inr.none => exact False.elim h
  simp only [mz_ch1, mz_isR, Bool.and_eq_true, decide_eq_true_eq] at hc
  obtain ⟨⟨hc, hw⟩, ⟨ha, ht⟩, hf⟩ := hc
  have h : tv = c9 ∧ σ.2.2.1 ov a = true ∧ (match mz_fr c9 a with | some (u, n, f) => (mz_gr σ σ0 ∧ mz_K p l e R s m args below meth c D cy sK sV vF β Q ade te se k (i + 1) ls (.inr (some (u, n, ov + f)) :: st) σ) | none => False) := h
  obtain ⟨rfl, hi, h⟩ := h
  cases hf2 : mz_fr tv a with
  | none => rw [hf2] at hf; simp at hf
  | some q =>
  obtain ⟨u, n, f⟩ := q
  rw [hf2] at h
  have h : (mz_gr σ σ0 ∧ mz_K p l e R s m args below meth c D cy sK sV vF β Q ade te se k (i + 1) ls (.inr (some (u, n, ov + f)) :: st) σ) := h
  obtain ⟨hg, h⟩ := h
  obtain ⟨hd, hp⟩ := mz_D_ok hc
  have ho := mz_wf_o (mz_H_hd hH) (Or.inl (by omega))
  have he : (mz_ws ad cy σ)[ov]? = some (ad ov, .inr (tv, (List.range (mz_nf tv)).map (mz_fv ad σ tv ov))) := by rw [mz_ws_at _ _ _ ho.1, mz_en_o ho.2 ht]
  rw [List.map_cons, mz_v_o (Or.inl (by omega))]
  have hn := hS.2.2.2.2.1 ov ho.1 a u n f (by rw [ho.2]; exact ha) (by rw [ho.2]; exact hf2) hi
  have hk := (mz_kd_ok (Nat.lt_of_lt_of_le hn.1 hS.1)).1
  rw [hn.2] at hk
  simp only at hk
  exact va_get hx hb hts (mz_hin ht) hown hCx.1 hH.1 ov he (mz_cl_at tv ht) a ha (ref := (mz_T tv a).1) (hts _ (mz_W_ok hw)) (fun _ q => q) (v := .ref (ad (ov + f))) (by simp [ha, mz_fv, hf2, hi]) hd (mz_K_at h hp h1 h2 h3 (mz_H_cons (mz_H_tl hH) (mz_of_wf hn.1 hS.1 hn.2)) (by rw [List.map_cons, mz_v_o (by omega)]))

theorem mz_fs_up {ad : Nat → Nat} {t o a : Nat} {v : Int} (hf : mz_fr t a = none) (ha : a < mz_nf t) : ((List.range (mz_nf t)).map (mz_fv ad σ t o)).set a (.int (Int32.ofInt v)) = (List.range (mz_nf t)).map (mz_fv ad (σ.1, σ.2.1, σ.2.2.1, mz_up σ.2.2.2 o a v) t o) := by
  apply List.ext_getElem?
  intro j
  rw [List.getElem?_set]
  by_cases hj : j < mz_nf t
  · by_cases haj : a = j
    · subst haj
      simp [ha, mz_fv, hf, mz_up]
    · rw [if_neg haj]
      simp only [List.getElem?_map, List.getElem?_range hj, Option.map_some]
      congr 1
      unfold mz_fv
      simp only [mz_up, true_and, Ne.symm haj, if_false]
  · rw [if_neg (by omega)]
    simp [hj]

theorem mz_s38 (hF : mz_F p R s m args meth c D cy sK sV vF β k) (hc : mz_ch1 k i 38 a b c9 x9 y9 = true) (h : mz_st1 (fun ls st σ => mz_gr σ σ0 ∧ mz_K p l e R s m args below meth c D cy sK sV vF β Q ade te se k (i + 1) ls st σ) call rt (38, a, b, c9, x9, y9) ls st σ) : mz_K p l e R s m args below meth c D cy sK sV vF β Q ade te se k i ls st σ := by
  obtain ⟨hx, hb, hr, hml, hown, hlk, hnm, hts, hCx, hfr, hlo⟩ := hF
  intro ad lsA H locs h1 h2 h3 hH
  have hA : ∀ q : Nat, s.heap.size ≤ q → β q := hCx.2.2.2.2.2.2.2.1
  have hS := hH.2.2.2.1
  rcases st with _ | ⟨u0, st⟩
  · exact False.elim h
  rcases u0 with u | w0
  case inr => exact False.elim h
  rcases st with _ | ⟨v0, st⟩
  · exact False.elim h
  rcases v0 with w0 | _ | ⟨tv, zv, ov⟩
  case inl => exact False.elim h
  case inr.none => exact False.elim h
  have h : tv = c9 ∧ (mz_gr (σ.1, σ.2.1, σ.2.2.1, mz_up σ.2.2.2 ov a u) σ0 ∧ mz_K p l e R s m args below meth c D cy sK sV vF β Q ade te se k (i + 1) ls st (σ.1, σ.2.1, σ.2.2.1, mz_up σ.2.2.2 ov a u)) := h
  obtain ⟨rfl, hg, h⟩ := h
  simp only [mz_ch1, mz_isI, Bool.and_eq_true, decide_eq_true_eq] at hc
  obtain ⟨⟨⟨hc, hw⟩, ⟨⟨ha, ht⟩, hty⟩, hf⟩, hfin⟩ := hc
  obtain ⟨hd, hp⟩ := mz_D_ok hc
  have ho := mz_wf_o (mz_H_hd (mz_H_tl hH)) (Or.inl (by omega))
  have he : (mz_ws ad cy σ)[ov]? = some (ad ov, .inr (tv, (List.range (mz_nf tv)).map (mz_fv ad σ tv ov))) := by rw [mz_ws_at _ _ _ ho.1, mz_en_o ho.2 ht]
  rw [List.map_cons, List.map_cons, mz_v_o (Or.inl (by omega)), mz_v_i]
  have hdt : parseFieldDescriptor (mz_T tv a).2.2.1 = some .int := by rw [mz_hty ht a ha, hty]
  have hl : a < ((List.range (mz_nf tv)).map (mz_fv ad σ tv ov)).length := by simpa using ha
  have hset : (mz_ws ad cy σ).set ov (ad ov, .inr (tv, ((List.range (mz_nf tv)).map (mz_fv ad σ tv ov)).set a (.int (Int32.ofInt u)))) = mz_ws ad cy (σ.1, σ.2.1, σ.2.2.1, mz_up σ.2.2.2 ov a u) := by
    refine mz_ws_set (σ' := (σ.1, σ.2.1, σ.2.2.1, mz_up σ.2.2.2 ov a u)) rfl ho.1 ?_ (fun q _ hq => mz_en_eq (fun j => mz_up_ne hq) (fun _ => rfl) (fun _ => rfl))
    rw [mz_en_o ho.2 ht, mz_fs_up hf ha]
  have hwS := mz_wS_up (o := ov) (a := a) hS (mz_H_hd hH) (fun q => by rw [ho.2] at q; simp only at q; omega) (fun q => by rw [ho.2] at q; simp only at q; omega)
  have fin : ∀ (H1 : Heap) (locs1 : List Loc), va_P D vwCl ((mz_ws ad cy σ).set ov (ad ov, .inr (tv, ((List.range (mz_nf tv)).map (mz_fv ad σ tv ov)).set a (.int (Int32.ofInt u))))) H1 → va_D β ((mz_ws ad cy σ).set ov (ad ov, .inr (tv, ((List.range (mz_nf tv)).map (mz_fv ad σ tv ov)).set a (.int (Int32.ofInt u))))) → va_S β s.heap H1 locs1 → W p l e R s m args below meth c H1 locs1 (σ.1 - te) (σ.2.1 - se) Q (F0 m (mz_pc k i + 3) lsA (st.map (mz_v ad sK sV vF))) := by
    intro H1 locs1 q1 q2 q3
    rw [hset] at q1 q2
    exact mz_K_at h hp h1 h2 h3 (mz_H_mem (mz_H_tl (mz_H_tl hH)) rfl q1 q2 q3 hwS) rfl
  split at hfin
  · rename_i hfl
    simp only [Bool.and_eq_true, decide_eq_true_eq] at hfin
    exact va_putF hx hb hts (mz_hin ht) (mz_ty tv) (mz_hty ht) (mz_hnm ht) hown hCx.1 hH.1 hH.2.1 hH.2.2.1 ov he (mz_cl_at tv ht) a ha (ref := (mz_T tv a).1) (hts _ (mz_W_ok hw)) (fun _ q => q) hfl (by rw [hnm]; exact hfin.1) hfin.2 hdt rfl rfl hl hd fin
  · rename_i hfl
    exact va_put hx hb hts (mz_hin ht) (mz_ty tv) (mz_hty ht) (mz_hnm ht) hown hCx.1 hH.1 hH.2.1 hH.2.2.1 ov he (mz_cl_at tv ht) a ha (ref := (mz_T tv a).1) (hts _ (mz_W_ok hw)) (fun _ q => q) (by simpa using hfl) hdt rfl rfl hl hd fin

theorem mz_wS_iu {o a : Nat} (h : mz_wS σ) (h1 : ∀ u n f, mz_fr (mz_kd o).1 a = some (u, n, f) → o + f < σ.1 ∧ mz_kd (o + f) = (u, n)) (h2 : 103 ≤ (mz_kd o).1 → (mz_kd o).1 ≤ 105 → o + ((mz_ar (mz_kd o).1).2.1 + (mz_ar (mz_kd o).1).2.2 * a) < σ.1 ∧ mz_kd (o + ((mz_ar (mz_kd o).1).2.1 + (mz_ar (mz_kd o).1).2.2 * a)) = ((mz_ar (mz_kd o).1).1, 0)) : mz_wS (σ.1, σ.2.1, mz_iu σ.2.2.1 o a, σ.2.2.2) := by
  obtain ⟨q1, q2, q3, q4, q5, q6⟩ := h
  refine ⟨q1, q2, q3, q4, fun o' ho k' t n f hk hf hi => ?_, fun o' ho ht1 ht2 k' hk hi => ?_⟩
  · by_cases hh : o' = o ∧ k' = a
    · obtain ⟨rfl, rfl⟩ := hh
      exact h1 t n f hf
    · refine q5 o' ho k' t n f hk hf ?_
      have hi : mz_iu σ.2.2.1 o a o' k' = true := hi
      unfold mz_iu at hi
      rwa [if_neg hh] at hi
  · by_cases hh : o' = o ∧ k' = a
    · obtain ⟨rfl, rfl⟩ := hh
      exact h2 ht1 ht2
    · refine q6 o' ho ht1 ht2 k' hk ?_
      have hi : mz_iu σ.2.2.1 o a o' k' = true := hi
      unfold mz_iu at hi
      rwa [if_neg hh] at hi
theorem mz_fs_iu {ad : Nat → Nat} {t o a u n f : Nat} (hf : mz_fr t a = some (u, n, f)) (ha : a < mz_nf t) : ((List.range (mz_nf t)).map (mz_fv ad σ t o)).set a (.ref (ad (o + f))) = (List.range (mz_nf t)).map (mz_fv ad (σ.1, σ.2.1, mz_iu σ.2.2.1 o a, σ.2.2.2) t o) := by
  apply List.ext_getElem?
  intro j
  rw [List.getElem?_set]
  by_cases hj : j < mz_nf t
  · by_cases haj : a = j
    · subst haj
      simp [ha, mz_fv, hf, mz_iu]
    · rw [if_neg haj]
      simp only [List.getElem?_map, List.getElem?_range hj, Option.map_some]
      congr 1
      unfold mz_fv
      simp only [mz_iu, true_and, Ne.symm haj, if_false]
  · rw [if_neg (by omega)]
    simp [hj]

theorem mz_s39 (hF : mz_F p R s m args meth c D cy sK sV vF β k) (hc : mz_ch1 k i 39 a b c9 x9 y9 = true) (h : mz_st1 (fun ls st σ => mz_gr σ σ0 ∧ mz_K p l e R s m args below meth c D cy sK sV vF β Q ade te se k (i + 1) ls st σ) call rt (39, a, b, c9, x9, y9) ls st σ) : mz_K p l e R s m args below meth c D cy sK sV vF β Q ade te se k i ls st σ := by
  obtain ⟨hx, hb, hr, hml, hown, hlk, hnm, hts, hCx, hfr, hlo⟩ := hF
  intro ad lsA H locs h1 h2 h3 hH
  have hA : ∀ q : Nat, s.heap.size ≤ q → β q := hCx.2.2.2.2.2.2.2.1
  have hS := hH.2.2.2.1
  rcases st with _ | ⟨u0, st⟩
  · exact False.elim h
  rcases u0 with w0 | _ | ⟨tu, zu, ou⟩
  case inl => exact False.elim h
  case inr.none => exact False.elim h
  rcases st with _ | ⟨v0, st⟩
  · exact False.elim h
  rcases v0 with w0 | _ | ⟨tv, zv, ov⟩
  case inl => exact False.elim h
  case inr.none => exact False.elim h
  simp only [mz_ch1, mz_isR, Bool.and_eq_true, decide_eq_true_eq] at hc
  obtain ⟨⟨⟨⟨⟨hc, hw⟩, ⟨ha, ht⟩, hf⟩, hfl⟩, hin⟩, hdc⟩ := hc
  have h : tv = c9 ∧ (match mz_fr c9 a with | some (u', n', f) => tu = u' ∧ zu = n' ∧ ou = ov + f | none => False) ∧ (mz_gr (σ.1, σ.2.1, mz_iu σ.2.2.1 ov a, σ.2.2.2) σ0 ∧ mz_K p l e R s m args below meth c D cy sK sV vF β Q ade te se k (i + 1) ls st (σ.1, σ.2.1, mz_iu σ.2.2.1 ov a, σ.2.2.2)) := h
  obtain ⟨rfl, hm, hg, hN⟩ := h
  cases hf2 : mz_fr tv a with
  | none => rw [hf2] at hf; simp at hf
  | some q =>
  obtain ⟨u, n, f⟩ := q
  rw [hf2] at hm
  have hm : tu = u ∧ zu = n ∧ ou = ov + f := hm
  obtain ⟨rfl, rfl, rfl⟩ := hm
  obtain ⟨hd, hp⟩ := mz_D_ok hc
  have ho := mz_wf_o (mz_H_hd (mz_H_tl hH)) (Or.inl (by omega))
  have he : (mz_ws ad cy σ)[ov]? = some (ad ov, .inr (tv, (List.range (mz_nf tv)).map (mz_fv ad σ tv ov))) := by rw [mz_ws_at _ _ _ ho.1, mz_en_o ho.2 ht]
  have hf3 : (mz_fr tv a).isSome = true := by rw [hf2]; rfl
  have hfk : ∀ c k, (mz_fr c k).isSome = true → c < 10 → k < mz_nf c → ∀ q, mz_fr c k = some q → q.1 < 10 ∨ 100 ≤ q.1 := by
    have hB : ((List.range 10).all fun c => (List.range (mz_nf c)).all fun k => match mz_fr c k with | some q => decide (q.1 < 10 ∨ 100 ≤ q.1) | none => true) = true := by decide +kernel
    intro c k _ hc hk q hq
    have := List.all_eq_true.mp (List.all_eq_true.mp hB c (List.mem_range.mpr hc)) k (List.mem_range.mpr hk)
    rw [hq] at this
    simpa using this
  have hu := hfk tv a hf3 ht ha _ hf2
  simp only at hu
  rw [List.map_cons, List.map_cons, mz_v_o (t := tu) (by omega), mz_v_o (t := tv) (Or.inl (by omega))]
  have hou := mz_wf_o (mz_H_hd hH) (by omega)
  have hset : (mz_ws ad cy σ).set ov (ad ov, .inr (tv, ((List.range (mz_nf tv)).map (mz_fv ad σ tv ov)).set a (.ref (ad (ov + f))))) = mz_ws ad cy (σ.1, σ.2.1, mz_iu σ.2.2.1 ov a, σ.2.2.2) := by
    refine mz_ws_set (σ' := (σ.1, σ.2.1, mz_iu σ.2.2.1 ov a, σ.2.2.2)) rfl ho.1 ?_ (fun q _ hq => mz_en_eq (fun _ => rfl) (fun j => mz_iu_ne hq) (fun _ => rfl))
    rw [mz_en_o ho.2 ht, mz_fs_iu hf2 ha]
  have hwS := mz_wS_iu (o := ov) (a := a) hS (fun u n f' q => by rw [ho.2] at q; simp only at q; rw [hf2] at q; cases q; exact hou) (fun q => by rw [ho.2] at q; simp only at q; omega)
  have hl : a < ((List.range (mz_nf tv)).map (mz_fv ad σ tv ov)).length := by simpa using ha
  have hty : narrow (mz_ty tv a) (.ref (ad (ov + f))) = .ref (ad (ov + f)) ∧ fits (mz_ty tv a) (.ref (ad (ov + f))) = true := by
    rcases mz_tyR ht ha hf3 with ⟨n, hn⟩ | ⟨n, hn⟩ <;> rw [hn] <;> exact ⟨rfl, rfl⟩
  refine va_putF hx hb hts (mz_hin ht) (mz_ty tv) (mz_hty ht) (mz_hnm ht) hown hCx.1 hH.1 hH.2.1 hH.2.2.1 ov he (mz_cl_at tv ht) a ha (ref := (mz_T tv a).1) (hts _ (mz_W_ok hw)) (fun _ q => q) hfl (by rw [hnm]; exact hin) hdc (mz_hty ht a ha) hty.1 hty.2 hl hd (fun H1 locs1 q1 q2 q3 => ?_)
  rw [hset] at q1 q2
  exact mz_K_at hN hp h1 h2 h3 (mz_H_mem (mz_H_tl (mz_H_tl hH)) rfl q1 q2 q3 hwS) rfl

theorem mz_s40 (hF : mz_F p R s m args meth c D cy sK sV vF β k) (hc : mz_ch1 k i 40 a b c9 x9 y9 = true) (h : mz_st1 (fun ls st σ => mz_gr σ σ0 ∧ mz_K p l e R s m args below meth c D cy sK sV vF β Q ade te se k (i + 1) ls st σ) call rt (40, a, b, c9, x9, y9) ls st σ) : mz_K p l e R s m args below meth c D cy sK sV vF β Q ade te se k i ls st σ := by
  obtain ⟨hx, hb, hr, hml, hown, hlk, hnm, hts, hCx, hfr, hlo⟩ := hF
  intro ad lsA H locs h1 h2 h3 hH
  have hA : ∀ q : Nat, s.heap.size ≤ q → β q := hCx.2.2.2.2.2.2.2.1
  have hS := hH.2.2.2.1
  rcases st with _ | ⟨j0, st⟩
  · exact False.elim h
  rcases j0 with j | w0
  case inr => exact False.elim h
  rcases st with _ | ⟨v0, st⟩
  · exact False.elim h
  rcases v0 with w0 | _ | ⟨tv, zv, ov⟩
  case inl => exact False.elim h
  case inr.none => exact False.elim h
  have h : tv = 100 ∧ (0 ≤ j ∧ j < zv) ∧ (mz_gr σ σ0 ∧ mz_K p l e R s m args below meth c D cy sK sV vF β Q ade te se k (i + 1) ls (.inl (σ.2.2.2 ov j.toNat) :: st) σ) := h
  obtain ⟨rfl, hj, hg, h⟩ := h
  simp only [mz_ch1] at hc
  obtain ⟨hd, hp⟩ := mz_D_ok hc
  have ho := mz_wf_o (mz_H_hd (mz_H_tl hH)) (Or.inr (by omega))
  have he : (mz_ws ad cy σ)[ov]? = some (ad ov, .inl (cy 0, zv, .inl (fun k => Int32.ofInt (σ.2.2.2 ov k)))) := by rw [mz_ws_at _ _ _ ho.1, mz_en_a ho.2 (by omega)]
  rw [List.map_cons, List.map_cons, mz_v_o (Or.inr (by omega)), mz_v_i]
  obtain ⟨hin, hjn⟩ := mz_inI (mz_H_hd hH) hj
  exact va_iald hx hb hCx.1 hH.1 ov 0 he rfl hin hd (mz_K_at h hp h1 h2 h3 (mz_H_cons (mz_H_tl (mz_H_tl hH)) (hS.2.1 _ _)) (by rw [List.map_cons, mz_v_i, hjn]))

theorem mz_s42 (hF : mz_F p R s m args meth c D cy sK sV vF β k) (hc : mz_ch1 k i 42 a b c9 x9 y9 = true) (h : mz_st1 (fun ls st σ => mz_gr σ σ0 ∧ mz_K p l e R s m args below meth c D cy sK sV vF β Q ade te se k (i + 1) ls st σ) call rt (42, a, b, c9, x9, y9) ls st σ) : mz_K p l e R s m args below meth c D cy sK sV vF β Q ade te se k i ls st σ := by
  obtain ⟨hx, hb, hr, hml, hown, hlk, hnm, hts, hCx, hfr, hlo⟩ := hF
  intro ad lsA H locs h1 h2 h3 hH
  have hA : ∀ q : Nat, s.heap.size ≤ q → β q := hCx.2.2.2.2.2.2.2.1
  have hS := hH.2.2.2.1
  rcases st with _ | ⟨j0, st⟩
  · exact False.elim h
  rcases j0 with j | w0
  case inr => exact False.elim h
  rcases st with _ | ⟨v0, st⟩
  · exact False.elim h
  rcases v0 with w0 | _ | ⟨tv, zv, ov⟩
  case inl => exact False.elim h
  case inr.none => exact False.elim h
  have h : tv = 101 ∧ (0 ≤ j ∧ j < zv) ∧ (mz_gr σ σ0 ∧ mz_K p l e R s m args below meth c D cy sK sV vF β Q ade te se k (i + 1) ls (.inl (σ.2.2.2 ov j.toNat) :: st) σ) := h
  obtain ⟨rfl, hj, hg, h⟩ := h
  simp only [mz_ch1] at hc
  obtain ⟨hd, hp⟩ := mz_D_ok hc
  have ho := mz_wf_o (mz_H_hd (mz_H_tl hH)) (Or.inr (by omega))
  have he : (mz_ws ad cy σ)[ov]? = some (ad ov, .inl (cy 1, zv, .inl (fun k => Int32.ofInt (σ.2.2.2 ov k)))) := by rw [mz_ws_at _ _ _ ho.1, mz_en_a ho.2 (by omega)]
  rw [List.map_cons, List.map_cons, mz_v_o (Or.inr (by omega)), mz_v_i]
  obtain ⟨hin, hjn⟩ := mz_inI (mz_H_hd hH) hj
  exact va_zald hx hb hCx.1 hH.1 ov 1 he rfl hin hd (mz_K_at h hp h1 h2 h3 (mz_H_cons (mz_H_tl (mz_H_tl hH)) (hS.2.1 _ _)) (by rw [List.map_cons, mz_v_i, hjn]))

theorem mz_s41 (hF : mz_F p R s m args meth c D cy sK sV vF β k) (hc : mz_ch1 k i 41 a b c9 x9 y9 = true) (h : mz_st1 (fun ls st σ => mz_gr σ σ0 ∧ mz_K p l e R s m args below meth c D cy sK sV vF β Q ade te se k (i + 1) ls st σ) call rt (41, a, b, c9, x9, y9) ls st σ) : mz_K p l e R s m args below meth c D cy sK sV vF β Q ade te se k i ls st σ := by
  obtain ⟨hx, hb, hr, hml, hown, hlk, hnm, hts, hCx, hfr, hlo⟩ := hF
  intro ad lsA H locs h1 h2 h3 hH
  have hA : ∀ q : Nat, s.heap.size ≤ q → β q := hCx.2.2.2.2.2.2.2.1
  have hS := hH.2.2.2.1
  rcases st with _ | ⟨u0, st⟩
  · exact False.elim h
  rcases u0 with u | w0
  case inr => exact False.elim h
  rcases st with _ | ⟨j0, st⟩
  · exact False.elim h
  rcases j0 with j | w0
  case inr => exact False.elim h
  rcases st with _ | ⟨v0, st⟩
  · exact False.elim h
  rcases v0 with w0 | _ | ⟨tv, zv, ov⟩
  case inl => exact False.elim h
  case inr.none => exact False.elim h
  have h : tv = 100 ∧ (0 ≤ j ∧ j < zv) ∧ (mz_gr (σ.1, σ.2.1, σ.2.2.1, mz_up σ.2.2.2 ov j.toNat u) σ0 ∧ mz_K p l e R s m args below meth c D cy sK sV vF β Q ade te se k (i + 1) ls st (σ.1, σ.2.1, σ.2.2.1, mz_up σ.2.2.2 ov j.toNat u)) := h
  obtain ⟨rfl, hj, hg, h⟩ := h
  simp only [mz_ch1] at hc
  obtain ⟨hd, hp⟩ := mz_D_ok hc
  have ho := mz_wf_o (mz_H_hd (mz_H_tl (mz_H_tl hH))) (Or.inr (by omega))
  have he : (mz_ws ad cy σ)[ov]? = some (ad ov, .inl (cy 0, zv, .inl (fun k => Int32.ofInt (σ.2.2.2 ov k)))) := by rw [mz_ws_at _ _ _ ho.1, mz_en_a ho.2 (by omega)]
  rw [List.map_cons, List.map_cons, List.map_cons, mz_v_o (Or.inr (by omega)), mz_v_i, mz_v_i]
  obtain ⟨hin, hjn⟩ := mz_inI (mz_H_hd (mz_H_tl hH)) hj
  have hval : Int32.ofInt u = Int32.ofInt u := rfl
  refine va_iast hx hb hCx.1 hH.1 hH.2.1 hH.2.2.1 ov 0 he rfl hin hd (fun H1 locs1 q1 q2 q3 => ?_)
  have hset : (mz_ws ad cy σ).set ov (ad ov, .inl (cy 0, zv, .inl (upd (fun k => Int32.ofInt (σ.2.2.2 ov k)) (Int32.ofInt j).toNatClampNeg (Int32.ofInt u)))) = mz_ws ad cy (σ.1, σ.2.1, σ.2.2.1, mz_up σ.2.2.2 ov j.toNat u) := by
    refine mz_ws_set (σ' := (σ.1, σ.2.1, σ.2.2.1, mz_up σ.2.2.2 ov j.toNat u)) rfl ho.1 ?_ (fun q _ hq => mz_en_eq (fun j => mz_up_ne hq) (fun _ => rfl) (fun _ => rfl))
    rw [mz_en_a ho.2 (by omega), hval, hjn]
    congr 4
    funext q
    unfold mz_up upd
    by_cases hq : q = j.toNat <;> simp [hq]
  rw [hset] at q1 q2
  exact mz_K_at h hp h1 h2 h3 (mz_H_mem (mz_H_tl (mz_H_tl (mz_H_tl hH))) rfl q1 q2 q3 (mz_wS_up hS (mz_H_hd hH) (fun q => by rw [ho.2] at q; simp at q) (fun q => by rw [ho.2] at q; simp at q))) rfl

theorem mz_s43 (hF : mz_F p R s m args meth c D cy sK sV vF β k) (hc : mz_ch1 k i 43 a b c9 x9 y9 = true) (h : mz_st1 (fun ls st σ => mz_gr σ σ0 ∧ mz_K p l e R s m args below meth c D cy sK sV vF β Q ade te se k (i + 1) ls st σ) call rt (43, a, b, c9, x9, y9) ls st σ) : mz_K p l e R s m args below meth c D cy sK sV vF β Q ade te se k i ls st σ := by
  obtain ⟨hx, hb, hr, hml, hown, hlk, hnm, hts, hCx, hfr, hlo⟩ := hF
  intro ad lsA H locs h1 h2 h3 hH
  have hA : ∀ q : Nat, s.heap.size ≤ q → β q := hCx.2.2.2.2.2.2.2.1
  have hS := hH.2.2.2.1
  rcases st with _ | ⟨u0, st⟩
  · exact False.elim h
  rcases u0 with u | w0
  case inr => exact False.elim h
  rcases st with _ | ⟨j0, st⟩
  · exact False.elim h
  rcases j0 with j | w0
  case inr => exact False.elim h
  rcases st with _ | ⟨v0, st⟩
  · exact False.elim h
  rcases v0 with w0 | _ | ⟨tv, zv, ov⟩
  case inl => exact False.elim h
  case inr.none => exact False.elim h
  have h : tv = 101 ∧ (0 ≤ j ∧ j < zv) ∧ (u = 0 ∨ u = 1) ∧ (mz_gr (σ.1, σ.2.1, σ.2.2.1, mz_up σ.2.2.2 ov j.toNat u) σ0 ∧ mz_K p l e R s m args below meth c D cy sK sV vF β Q ade te se k (i + 1) ls st (σ.1, σ.2.1, σ.2.2.1, mz_up σ.2.2.2 ov j.toNat u)) := h
  obtain ⟨rfl, hj, hu, hg, h⟩ := h
  simp only [mz_ch1] at hc
  obtain ⟨hd, hp⟩ := mz_D_ok hc
  have ho := mz_wf_o (mz_H_hd (mz_H_tl (mz_H_tl hH))) (Or.inr (by omega))
  have he : (mz_ws ad cy σ)[ov]? = some (ad ov, .inl (cy 1, zv, .inl (fun k => Int32.ofInt (σ.2.2.2 ov k)))) := by rw [mz_ws_at _ _ _ ho.1, mz_en_a ho.2 (by omega)]
  rw [List.map_cons, List.map_cons, List.map_cons, mz_v_o (Or.inr (by omega)), mz_v_i, mz_v_i]
  obtain ⟨hin, hjn⟩ := mz_inI (mz_H_hd (mz_H_tl hH)) hj
  have hval : vp_nar .boolean (Int32.ofInt u) = Int32.ofInt u := by rcases hu with rfl | rfl <;> decide
  refine va_zast hx hb hCx.1 hH.1 hH.2.1 hH.2.2.1 ov 1 he rfl hin hd (fun H1 locs1 q1 q2 q3 => ?_)
  have hset : (mz_ws ad cy σ).set ov (ad ov, .inl (cy 1, zv, .inl (upd (fun k => Int32.ofInt (σ.2.2.2 ov k)) (Int32.ofInt j).toNatClampNeg (vp_nar .boolean (Int32.ofInt u))))) = mz_ws ad cy (σ.1, σ.2.1, σ.2.2.1, mz_up σ.2.2.2 ov j.toNat u) := by
    refine mz_ws_set (σ' := (σ.1, σ.2.1, σ.2.2.1, mz_up σ.2.2.2 ov j.toNat u)) rfl ho.1 ?_ (fun q _ hq => mz_en_eq (fun j => mz_up_ne hq) (fun _ => rfl) (fun _ => rfl))
    rw [mz_en_a ho.2 (by omega), hval, hjn]
    congr 4
    funext q
    unfold mz_up upd
    by_cases hq : q = j.toNat <;> simp [hq]
  rw [hset] at q1 q2
  exact mz_K_at h hp h1 h2 h3 (mz_H_mem (mz_H_tl (mz_H_tl (mz_H_tl hH))) rfl q1 q2 q3 (mz_wS_up hS (mz_H_hd hH) (fun _ => hu) (fun q => by rw [ho.2] at q; simp at q))) rfl

theorem mz_nb {u : Int} (hu : -128 ≤ u ∧ u ≤ 127) : vp_nar .byte (Int32.ofInt u) = Int32.ofInt u := by
  rw [vp_nar_byte]
  have hB : ∀ n : Fin 256, (Int32.ofInt ((n.val : Int) - 128)).toInt8.toInt32 = Int32.ofInt ((n.val : Int) - 128) := by decide +kernel
  have := hB ⟨(u + 128).toNat, by omega⟩
  rwa [show (((u + 128).toNat : Nat) : Int) - 128 = u by omega] at this

theorem mz_s45 (hF : mz_F p R s m args meth c D cy sK sV vF β k) (hc : mz_ch1 k i 45 a b c9 x9 y9 = true) (h : mz_st1 (fun ls st σ => mz_gr σ σ0 ∧ mz_K p l e R s m args below meth c D cy sK sV vF β Q ade te se k (i + 1) ls st σ) call rt (45, a, b, c9, x9, y9) ls st σ) : mz_K p l e R s m args below meth c D cy sK sV vF β Q ade te se k i ls st σ := by
  obtain ⟨hx, hb, hr, hml, hown, hlk, hnm, hts, hCx, hfr, hlo⟩ := hF
  intro ad lsA H locs h1 h2 h3 hH
  have hA : ∀ q : Nat, s.heap.size ≤ q → β q := hCx.2.2.2.2.2.2.2.1
  have hS := hH.2.2.2.1
  rcases st with _ | ⟨u0, st⟩
  · exact False.elim h
  rcases u0 with u | w0
  case inr => exact False.elim h
  rcases st with _ | ⟨j0, st⟩
  · exact False.elim h
  rcases j0 with j | w0
  case inr => exact False.elim h
  rcases st with _ | ⟨v0, st⟩
  · exact False.elim h
  rcases v0 with w0 | _ | ⟨tv, zv, ov⟩
  case inl => exact False.elim h
  case inr.none => exact False.elim h
  have h : tv = 102 ∧ (0 ≤ j ∧ j < zv) ∧ (-128 ≤ u ∧ u ≤ 127) ∧ (mz_gr (σ.1, σ.2.1, σ.2.2.1, mz_up σ.2.2.2 ov j.toNat u) σ0 ∧ mz_K p l e R s m args below meth c D cy sK sV vF β Q ade te se k (i + 1) ls st (σ.1, σ.2.1, σ.2.2.1, mz_up σ.2.2.2 ov j.toNat u)) := h
  obtain ⟨rfl, hj, hu, hg, h⟩ := h
  simp only [mz_ch1] at hc
  obtain ⟨hd, hp⟩ := mz_D_ok hc
  have ho := mz_wf_o (mz_H_hd (mz_H_tl (mz_H_tl hH))) (Or.inr (by omega))
  have he : (mz_ws ad cy σ)[ov]? = some (ad ov, .inl (cy 2, zv, .inl (fun k => Int32.ofInt (σ.2.2.2 ov k)))) := by rw [mz_ws_at _ _ _ ho.1, mz_en_a ho.2 (by omega)]
  rw [List.map_cons, List.map_cons, List.map_cons, mz_v_o (Or.inr (by omega)), mz_v_i, mz_v_i]
  obtain ⟨hin, hjn⟩ := mz_inI (mz_H_hd (mz_H_tl hH)) hj
  have hval : vp_nar .byte (Int32.ofInt u) = Int32.ofInt u := mz_nb hu
  refine va_bast hx hb hCx.1 hH.1 hH.2.1 hH.2.2.1 ov 2 he rfl hin hd (fun H1 locs1 q1 q2 q3 => ?_)
  have hset : (mz_ws ad cy σ).set ov (ad ov, .inl (cy 2, zv, .inl (upd (fun k => Int32.ofInt (σ.2.2.2 ov k)) (Int32.ofInt j).toNatClampNeg (vp_nar .byte (Int32.ofInt u))))) = mz_ws ad cy (σ.1, σ.2.1, σ.2.2.1, mz_up σ.2.2.2 ov j.toNat u) := by
    refine mz_ws_set (σ' := (σ.1, σ.2.1, σ.2.2.1, mz_up σ.2.2.2 ov j.toNat u)) rfl ho.1 ?_ (fun q _ hq => mz_en_eq (fun j => mz_up_ne hq) (fun _ => rfl) (fun _ => rfl))
    rw [mz_en_a ho.2 (by omega), hval, hjn]
    congr 4
    funext q
    unfold mz_up upd
    by_cases hq : q = j.toNat <;> simp [hq]
  rw [hset] at q1 q2
  exact mz_K_at h hp h1 h2 h3 (mz_H_mem (mz_H_tl (mz_H_tl (mz_H_tl hH))) rfl q1 q2 q3 (mz_wS_up hS (mz_H_hd hH) (fun q => by rw [ho.2] at q; simp at q) (fun _ => hu))) rfl

end Sn4
