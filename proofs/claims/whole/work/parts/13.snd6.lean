section Sn6
variable {p : Program} {l : Launch} {e : Env} {R : Room} {s : State} {m : MethodId} {args : Array Value} {below : List Frame} {meth : Method} {c : Code} {D : va_G} {cy : Nat → ClassId} {sK sV : Nat → Nat} {vF : Value} {β : Nat → Prop} {Q : State → Prop} {ade : Nat → Nat} {te se : Nat} {k i a c9 x9 y9 : Nat} {b : Int} {σ σ0 : mz_S} {ls : mz_Ls} {st : List mz_V} {call : Nat → List mz_V → mz_S → (Option mz_V → mz_S → Prop) → Prop} {rt : Option mz_V → mz_S → Prop}
theorem mz_cats (hF : vF = .null ∨ ∃ a, vF = .ref a) (ad : Nat → Nat) : ((st.map (mz_v ad sK sV vF)).map fun v => v.category).sum = st.length := by
  induction st with
  | nil => rfl
  | cons v st ih =>
    rw [List.map_cons, List.map_cons, List.sum_cons, ih, mz_cat hF, List.length_cons]
    omega

theorem mz_s63 (hR : R.cells = σ0.1 - te ∧ R.slots = σ0.2.1 - se) (hF : mz_F p R s m args meth c D cy sK sV vF β k) (hc : mz_ch1 k i 63 a b c9 x9 y9 = true) (h : mz_st1 (fun ls st σ => mz_gr σ σ0 ∧ mz_K p l e R s m args below meth c D cy sK sV vF β Q ade te se k (i + 1) ls st σ) call rt (63, a, b, c9, x9, y9) ls st σ) : mz_K p l e R s m args below meth c D cy sK sV vF β Q ade te se k i ls st σ := by
  obtain ⟨hx, hb, hr, hml, hown, hlk, hnm, hts, hCx, hfr, hlo⟩ := hF
  intro ad lsA H locs h1 h2 h3 hH
  have hA : ∀ q : Nat, s.heap.size ≤ q → β q := hCx.2.2.2.2.2.2.2.1
  have hS := hH.2.2.2.1
  rcases st with _ | ⟨v0, st⟩
  · exact False.elim h
  rcases v0 with w0 | _ | ⟨tv, zv, ov⟩
  case inl => exact False.elim h
  case inr.none => exact False.elim h
  have h : tv < 10 ∧ st.length ≤ 8 ∧ (mz_gr σ σ0 ∧ mz_K p l e R s m args below meth c D cy sK sV vF β Q ade te se k (i + 1) ls st σ) := h
  obtain ⟨ht, hlen, hg, h⟩ := h
  simp only [mz_ch1, Bool.and_eq_true, decide_eq_true_eq] at hc
  obtain ⟨⟨hc, hw⟩, h1d⟩ := hc
  obtain ⟨hd, hp⟩ := mz_D_ok hc
  rw [List.map_cons, mz_v_o (Or.inl (by omega))]
  exact W.objInit hx hb hown (hts _ (mz_W_ok hw)) (hts _ mz_wd3) (hts _ mz_wd4) rfl (by rw [hml]; exact hH.2.2.2.2.2.2.1.1) rfl hd (by omega) (by rw [mz_cats hCx.2.2.2.2.2.2.1]; show 2 * 0 + st.length + 12 ≤ R.locals; omega) (mz_K_at h hp h1 h2 h3 (mz_H_tl hH) rfl)

theorem mz_wS_cp {o0 o1 n : Nat} (h : mz_wS σ) (hk : (mz_kd o1).1 = 100) : mz_wS (σ.1, σ.2.1, σ.2.2.1, mz_cp σ.2.2.2 o0 o1 n) := by
  obtain ⟨q1, q2, q3, q4, q5, q6⟩ := h
  refine ⟨q1, fun o k => ?_, fun o k hh => ?_, fun o k hh => ?_, q5, q6⟩
  · show mz_w (mz_cp σ.2.2.2 o0 o1 n o k)
    unfold mz_cp
    split <;> exact q2 _ _
  · show mz_cp σ.2.2.2 o0 o1 n o k = 0 ∨ mz_cp σ.2.2.2 o0 o1 n o k = 1
    unfold mz_cp
    split
    · rename_i hq; rw [hq.1, hk] at hh; cases hh
    · exact q3 _ _ hh
  · show -128 ≤ mz_cp σ.2.2.2 o0 o1 n o k ∧ mz_cp σ.2.2.2 o0 o1 n o k ≤ 127
    unfold mz_cp
    split
    · rename_i hq; rw [hq.1, hk] at hh; cases hh
    · exact q4 _ _ hh

theorem mz_s64 (hR : R.cells = σ0.1 - te ∧ R.slots = σ0.2.1 - se) (hF : mz_F p R s m args meth c D cy sK sV vF β k) (hc : mz_ch1 k i 64 a b c9 x9 y9 = true) (h : mz_st1 (fun ls st σ => mz_gr σ σ0 ∧ mz_K p l e R s m args below meth c D cy sK sV vF β Q ade te se k (i + 1) ls st σ) call rt (64, a, b, c9, x9, y9) ls st σ) : mz_K p l e R s m args below meth c D cy sK sV vF β Q ade te se k i ls st σ := by
  obtain ⟨hx, hb, hr, hml, hown, hlk, hnm, hts, hCx, hfr, hlo⟩ := hF
  intro ad lsA H locs h1 h2 h3 hH
  have hA : ∀ q : Nat, s.heap.size ≤ q → β q := hCx.2.2.2.2.2.2.2.1
  have hS := hH.2.2.2.1
  rcases st with _ | ⟨u0, st⟩
  · exact False.elim h
  rcases u0 with u | w0
  case inr => exact False.elim h
  rcases st with _ | ⟨dp0, st⟩
  · exact False.elim h
  rcases dp0 with dp | w0
  case inr => exact False.elim h
  rcases st with _ | ⟨v0, st⟩
  · exact False.elim h
  rcases v0 with w0 | _ | ⟨tv, zv, ov⟩
  case inl => exact False.elim h
  case inr.none => exact False.elim h
  rcases st with _ | ⟨sp0, st⟩
  · exact False.elim h
  rcases sp0 with sp | w0
  case inr => exact False.elim h
  rcases st with _ | ⟨w0, st⟩
  · exact False.elim h
  rcases w0 with w0 | _ | ⟨tw, zw, ow⟩
  case inl => exact False.elim h
  case inr.none => exact False.elim h
  have h : (tw = 100 ∧ tv = 100 ∧ sp = 0 ∧ dp = 0) ∧ (0 ≤ u ∧ u ≤ zw ∧ u ≤ zv) ∧ st.length ≤ 8 ∧ (mz_gr (σ.1, σ.2.1, σ.2.2.1, mz_cp σ.2.2.2 ow ov u.toNat) σ0 ∧ mz_K p l e R s m args below meth c D cy sK sV vF β Q ade te se k (i + 1) ls st (σ.1, σ.2.1, σ.2.2.1, mz_cp σ.2.2.2 ow ov u.toNat)) := h
  obtain ⟨⟨htw, htv, rfl, rfl⟩, ⟨hu0, hu1, hu2⟩, hlen, hg, hN⟩ := h
  subst htw
  subst htv
  simp only [mz_ch1, Bool.and_eq_true, decide_eq_true_eq] at hc
  obtain ⟨⟨hc, hw⟩, h1d⟩ := hc
  obtain ⟨hd, hp⟩ := mz_D_ok hc
  have hu := mz_wf_o (mz_H_hd (mz_H_tl (mz_H_tl hH))) (Or.inr (by omega))
  have hw2 := mz_wf_o (mz_H_hd (mz_H_tl (mz_H_tl (mz_H_tl (mz_H_tl hH))))) (Or.inr (by omega))
  have he1 : (mz_ws ad cy σ)[ov]? = some (ad ov, .inl (cy 0, zv, .inl (fun k => Int32.ofInt (σ.2.2.2 ov k)))) := by rw [mz_ws_at _ _ _ hu.1, mz_en_a hu.2 (by omega)]
  have he0 : (mz_ws ad cy σ)[ow]? = some (ad ow, .inl (cy 0, zw, .inl (fun k => Int32.ofInt (σ.2.2.2 ow k)))) := by rw [mz_ws_at _ _ _ hw2.1, mz_en_a hw2.2 (by omega)]
  have eu : (Int32.ofInt u).toInt = u := mz_t (mz_H_hd hH)
  have e0 : (Int32.ofInt 0).toNatClampNeg = 0 := by decide
  have eun : (Int32.ofInt u).toNatClampNeg = u.toNat := by show (Int32.ofInt u).toInt.toNat = _; rw [eu]
  have hnf : nativeFrameWords "java/lang/System" "arraycopy" 5 ≤ 20 := by decide +kernel
  rw [List.map_cons, List.map_cons, List.map_cons, List.map_cons, List.map_cons, mz_v_o (Or.inr (by omega)), mz_v_o (Or.inr (by omega)), mz_v_i, mz_v_i]
  refine va_copyi hx hb (by rw [hml]; exact hH.2.2.2.2.2.2.1.1.symm) hown (hts _ (mz_W_ok hw)) (hts _ mz_wd5) (hts _ mz_wd6) (hts _ mz_wd7) hCx.1 hH.1 hH.2.1 hH.2.2.1 ow ov 0 0 he0 he1 rfl rfl rfl (sp := Int32.ofInt 0) (dp := Int32.ofInt 0) (n := Int32.ofInt u) (by decide) (by decide) (by rw [Int32.lt_iff_toInt_lt, eu]; show ¬ u < 0; omega) (by rw [e0, eun]; omega) (by rw [e0, eun]; omega) (fun _ _ => rfl) (by omega) (by rw [mz_cats hCx.2.2.2.2.2.2.1]; omega) hd (fun H1 locs1 q1 q2 q3 => ?_)
  have hset : (mz_ws ad cy σ).set ov (ad ov, .inl (cy 0, zv, .inl (va_cpy (fun k => Int32.ofInt (σ.2.2.2 ow k)) (fun k => Int32.ofInt (σ.2.2.2 ov k)) (Int32.ofInt 0).toNatClampNeg (Int32.ofInt 0).toNatClampNeg (Int32.ofInt u).toNatClampNeg))) = mz_ws ad cy (σ.1, σ.2.1, σ.2.2.1, mz_cp σ.2.2.2 ow ov u.toNat) := by
    refine mz_ws_set (σ' := (σ.1, σ.2.1, σ.2.2.1, mz_cp σ.2.2.2 ow ov u.toNat)) rfl hu.1 ?_ (fun q _ hq => mz_en_eq (fun j => by show mz_cp σ.2.2.2 ow ov u.toNat q j = _; unfold mz_cp; rw [if_neg (fun hh => hq hh.1)]) (fun _ => rfl) (fun _ => rfl))
    rw [mz_en_a hu.2 (by omega), e0, eun]
    congr 4
    funext q
    unfold va_cpy
    show Int32.ofInt (mz_cp σ.2.2.2 ow ov u.toNat ov q) = _
    unfold mz_cp
    by_cases hq : q < u.toNat
    · rw [if_pos ⟨rfl, hq⟩, if_pos ⟨Nat.zero_le _, by omega⟩]
      simp
    · rw [if_neg (fun hh => hq hh.2), if_neg (by omega)]
  rw [hset] at q1 q2
  exact mz_K_at hN hp h1 h2 h3 (mz_H_mem (mz_H_tl (mz_H_tl (mz_H_tl (mz_H_tl (mz_H_tl hH))))) rfl q1 q2 q3 (mz_wS_cp hS (by rw [hu.2]))) rfl

theorem mz_s65 (hF : mz_F p R s m args meth c D cy sK sV vF β k) (hc : mz_ch1 k i 65 a b c9 x9 y9 = true) (h : mz_st1 (fun ls st σ => mz_gr σ σ0 ∧ mz_K p l e R s m args below meth c D cy sK sV vF β Q ade te se k (i + 1) ls st σ) call rt (65, a, b, c9, x9, y9) ls st σ) : mz_K p l e R s m args below meth c D cy sK sV vF β Q ade te se k i ls st σ := by
  obtain ⟨hx, hb, hr, hml, hown, hlk, hnm, hts, hCx, hfr, hlo⟩ := hF
  intro ad lsA H locs h1 h2 h3 hH
  have hA : ∀ q : Nat, s.heap.size ≤ q → β q := hCx.2.2.2.2.2.2.2.1
  have hS := hH.2.2.2.1
  have h : (mz_gr σ σ0 ∧ mz_K p l e R s m args below meth c D cy sK sV vF β Q ade te se k (i + 1) ls (.inr (some (90, 0, a)) :: st) σ) := h
  obtain ⟨hg, hN⟩ := h
  simp only [mz_ch1, Bool.and_eq_true, decide_eq_true_eq] at hc
  obtain ⟨hc, hq⟩ := hc
  obtain ⟨hd, hp⟩ := mz_D_ok hc
  cases hs : mz_so[a]? with
  | none => rw [hs] at hq; simp at hq
  | some q =>
    rw [hs] at hq
    obtain ⟨q1, q2, q3⟩ := q
    simp at hq
    obtain ⟨rfl, rfl⟩ := hq
    have hk := hCx.2.2.1 a _ hs
    have ha : a < 18 := by have := (List.getElem?_eq_some_iff.mp hs).1; rwa [mz_so_len] at this
    exact va_ldcS hx hb hown hk hd (mz_K_at hN hp h1 h2 h3 (mz_H_cons hH (show mz_wf σ (.inr (some (90, 0, a))) from ha)) rfl)

theorem mz_s66 (hF : mz_F p R s m args meth c D cy sK sV vF β k) (hc : mz_ch1 k i 66 a b c9 x9 y9 = true) (h : mz_st1 (fun ls st σ => mz_gr σ σ0 ∧ mz_K p l e R s m args below meth c D cy sK sV vF β Q ade te se k (i + 1) ls st σ) call rt (66, a, b, c9, x9, y9) ls st σ) : mz_K p l e R s m args below meth c D cy sK sV vF β Q ade te se k i ls st σ := by
  obtain ⟨hx, hb, hr, hml, hown, hlk, hnm, hts, hCx, hfr, hlo⟩ := hF
  intro ad lsA H locs h1 h2 h3 hH
  have hA : ∀ q : Nat, s.heap.size ≤ q → β q := hCx.2.2.2.2.2.2.2.1
  have hS := hH.2.2.2.1
  rcases st with _ | ⟨v0, st⟩
  · exact False.elim h
  rcases v0 with w0 | _ | ⟨tv, zv, ov⟩
  case inl => exact False.elim h
  case inr.none => exact False.elim h
  have h : tv = 90 ∧ (mz_gr σ σ0 ∧ mz_K p l e R s m args below meth c D cy sK sV vF β Q ade te se k (i + 1) ls (.inr (some (91, mz_tl ov, ov)) :: st) σ) := h
  obtain ⟨ht, hg, hN⟩ := h
  subst ht
  simp only [mz_ch1, Bool.and_eq_true] at hc
  obtain ⟨hc, hw⟩ := hc
  obtain ⟨hd, hp⟩ := mz_D_ok hc
  have hv : ov < 18 := mz_H_hd hH
  exact vk_getf hx hb (hCx.2.2.2.1 ov hv).2.2.1 hH.2.2.1 hown (hts _ (mz_W_ok hw)) (fun _ q => q) hd (mz_K_at hN hp h1 h2 h3 (mz_H_cons (mz_H_tl hH) (show mz_wf σ (.inr (some (91, mz_tl ov, ov))) from ⟨hv, rfl⟩)) rfl)

theorem mz_s67 (hF : mz_F p R s m args meth c D cy sK sV vF β k) (hc : mz_ch1 k i 67 a b c9 x9 y9 = true) (h : mz_st1 (fun ls st σ => mz_gr σ σ0 ∧ mz_K p l e R s m args below meth c D cy sK sV vF β Q ade te se k (i + 1) ls st σ) call rt (67, a, b, c9, x9, y9) ls st σ) : mz_K p l e R s m args below meth c D cy sK sV vF β Q ade te se k i ls st σ := by
  obtain ⟨hx, hb, hr, hml, hown, hlk, hnm, hts, hCx, hfr, hlo⟩ := hF
  intro ad lsA H locs h1 h2 h3 hH
  have hA : ∀ q : Nat, s.heap.size ≤ q → β q := hCx.2.2.2.2.2.2.2.1
  have hS := hH.2.2.2.1
  rcases st with _ | ⟨v0, st⟩
  · exact False.elim h
  rcases v0 with w0 | _ | ⟨tv, zv, ov⟩
  case inl => exact False.elim h
  case inr.none => exact False.elim h
  have h : tv = 90 ∧ (mz_gr σ σ0 ∧ mz_K p l e R s m args below meth c D cy sK sV vF β Q ade te se k (i + 1) ls (.inl 0 :: st) σ) := h
  obtain ⟨ht, hg, hN⟩ := h
  subst ht
  simp only [mz_ch1, Bool.and_eq_true] at hc
  obtain ⟨hc, hw⟩ := hc
  obtain ⟨hd, hp⟩ := mz_D_ok hc
  have hv : ov < 18 := mz_H_hd hH
  exact vk_getf hx hb (hCx.2.2.2.1 ov hv).2.1 hH.2.2.1 hown (hts _ (mz_W_ok hw)) (fun _ q => q) hd (mz_K_at hN hp h1 h2 h3 (mz_H_cons (v := .inl 0) (mz_H_tl hH) mz_w0) rfl)

theorem mz_s68 (hF : mz_F p R s m args meth c D cy sK sV vF β k) (hc : mz_ch1 k i 68 a b c9 x9 y9 = true) (h : mz_st1 (fun ls st σ => mz_gr σ σ0 ∧ mz_K p l e R s m args below meth c D cy sK sV vF β Q ade te se k (i + 1) ls st σ) call rt (68, a, b, c9, x9, y9) ls st σ) : mz_K p l e R s m args below meth c D cy sK sV vF β Q ade te se k i ls st σ := by
  obtain ⟨hx, hb, hr, hml, hown, hlk, hnm, hts, hCx, hfr, hlo⟩ := hF
  intro ad lsA H locs h1 h2 h3 hH
  have hA : ∀ q : Nat, s.heap.size ≤ q → β q := hCx.2.2.2.2.2.2.2.1
  have hS := hH.2.2.2.1
  have h : (mz_gr σ σ0 ∧ mz_K p l e R s m args below meth c D cy sK sV vF β Q ade te se k (i + 1) ls (.inr none :: st) σ) := h
  obtain ⟨hg, h⟩ := h
  simp only [mz_ch1] at hc
  obtain ⟨hd, hp⟩ := mz_D_ok hc
  exact lv_null hx hb hd (mz_K_at h hp h1 h2 h3 (mz_H_cons (v := .inr none) hH trivial) rfl)

theorem mz_s69 (hF : mz_F p R s m args meth c D cy sK sV vF β k) (hc : mz_ch1 k i 69 a b c9 x9 y9 = true) (h : mz_st1 (fun ls st σ => mz_gr σ σ0 ∧ mz_K p l e R s m args below meth c D cy sK sV vF β Q ade te se k (i + 1) ls st σ) call rt (69, a, b, c9, x9, y9) ls st σ) : mz_K p l e R s m args below meth c D cy sK sV vF β Q ade te se k i ls st σ := by
  obtain ⟨hx, hb, hr, hml, hown, hlk, hnm, hts, hCx, hfr, hlo⟩ := hF
  intro ad lsA H locs h1 h2 h3 hH
  have hA : ∀ q : Nat, s.heap.size ≤ q → β q := hCx.2.2.2.2.2.2.2.1
  have hS := hH.2.2.2.1
  rcases st with _ | ⟨v0, st⟩
  · exact False.elim h
  rcases st with _ | ⟨u0, st⟩
  · exact False.elim h
  have h : (mz_gr σ σ0 ∧ mz_K p l e R s m args below meth c D cy sK sV vF β Q ade te se k (i + 1) ls (v0 :: u0 :: v0 :: u0 :: st) σ) := h
  obtain ⟨hg, h⟩ := h
  simp only [mz_ch1] at hc
  obtain ⟨hd, hp⟩ := mz_D_ok hc
  exact lv_dup2_11 hx hb hd (mz_cat hCx.2.2.2.2.2.2.1 ad sK sV _) (mz_cat hCx.2.2.2.2.2.2.1 ad sK sV _) (mz_K_at h hp h1 h2 h3 (mz_H_cons (mz_H_cons hH (mz_H_hd (mz_H_tl hH))) (mz_H_hd hH)) rfl)

theorem mz_s72 (hF : mz_F p R s m args meth c D cy sK sV vF β k) (hc : mz_ch1 k i 72 a b c9 x9 y9 = true) (h : mz_st1 (fun ls st σ => mz_gr σ σ0 ∧ mz_K p l e R s m args below meth c D cy sK sV vF β Q ade te se k (i + 1) ls st σ) call rt (72, a, b, c9, x9, y9) ls st σ) : mz_K p l e R s m args below meth c D cy sK sV vF β Q ade te se k i ls st σ := by
  obtain ⟨hx, hb, hr, hml, hown, hlk, hnm, hts, hCx, hfr, hlo⟩ := hF
  intro ad lsA H locs h1 h2 h3 hH
  have hA : ∀ q : Nat, s.heap.size ≤ q → β q := hCx.2.2.2.2.2.2.2.1
  have hS := hH.2.2.2.1
  have h : (mz_gr σ σ0 ∧ mz_K p l e R s m args below meth c D cy sK sV vF β Q ade te se k (i + 1) ls (.inl 1 :: st) σ) := h
  obtain ⟨hg, h⟩ := h
  simp only [mz_ch1, Bool.and_eq_true] at hc
  obtain ⟨hc, hw⟩ := hc
  obtain ⟨hd, hp⟩ := mz_D_ok hc
  exact va_gets hx hb hCx.2.2.2.2.1 hH.2.2.1 hown (hts _ (mz_W_ok hw)) (fun _ q => q) hd (mz_K_at h hp h1 h2 h3 (mz_H_cons (v := .inl 1) hH (show mz_w 1 by unfold mz_w; omega)) rfl)

theorem mz_s73 (hF : mz_F p R s m args meth c D cy sK sV vF β k) (hc : mz_ch1 k i 73 a b c9 x9 y9 = true) (h : mz_st1 (fun ls st σ => mz_gr σ σ0 ∧ mz_K p l e R s m args below meth c D cy sK sV vF β Q ade te se k (i + 1) ls st σ) call rt (73, a, b, c9, x9, y9) ls st σ) : mz_K p l e R s m args below meth c D cy sK sV vF β Q ade te se k i ls st σ := by
  obtain ⟨hx, hb, hr, hml, hown, hlk, hnm, hts, hCx, hfr, hlo⟩ := hF
  intro ad lsA H locs h1 h2 h3 hH
  have hA : ∀ q : Nat, s.heap.size ≤ q → β q := hCx.2.2.2.2.2.2.2.1
  have hS := hH.2.2.2.1
  have h : (mz_gr σ σ0 ∧ mz_K p l e R s m args below meth c D cy sK sV vF β Q ade te se k (i + 1) ls (.inr (some (92, 0, 0)) :: st) σ) := h
  obtain ⟨hg, h⟩ := h
  simp only [mz_ch1, Bool.and_eq_true] at hc
  obtain ⟨hc, hw⟩ := hc
  obtain ⟨hd, hp⟩ := mz_D_ok hc
  exact va_gets hx hb hCx.2.2.2.2.2.1 hH.2.2.1 hown (hts _ (mz_W_ok hw)) (fun _ q => q) hd (mz_K_at h hp h1 h2 h3 (mz_H_cons (v := .inr (some (92, 0, 0))) hH trivial) rfl)

theorem mz_i2c {u : Int} (h : 0 ≤ u ∧ u ≤ 65535) : ((Int32.ofInt u).toUInt32 % 65536).toInt32 = Int32.ofInt u := by
  have e : Int32.ofInt u = nI u.toNat := by
    rw [show nI u.toNat = Int32.ofNat u.toNat from rfl, mz_nn]
    congr 1
    omega
  rw [e, pk_char, pk_tn (by omega), Nat.mod_eq_of_lt (by omega)]

theorem mz_s74 (hF : mz_F p R s m args meth c D cy sK sV vF β k) (hc : mz_ch1 k i 74 a b c9 x9 y9 = true) (h : mz_st1 (fun ls st σ => mz_gr σ σ0 ∧ mz_K p l e R s m args below meth c D cy sK sV vF β Q ade te se k (i + 1) ls st σ) call rt (74, a, b, c9, x9, y9) ls st σ) : mz_K p l e R s m args below meth c D cy sK sV vF β Q ade te se k i ls st σ := by
  obtain ⟨hx, hb, hr, hml, hown, hlk, hnm, hts, hCx, hfr, hlo⟩ := hF
  intro ad lsA H locs h1 h2 h3 hH
  have hA : ∀ q : Nat, s.heap.size ≤ q → β q := hCx.2.2.2.2.2.2.2.1
  have hS := hH.2.2.2.1
  rcases st with _ | ⟨u0, st⟩
  · exact False.elim h
  rcases u0 with u | w0
  case inr => exact False.elim h
  have h : (0 ≤ u ∧ u ≤ 65535) ∧ (mz_gr σ σ0 ∧ mz_K p l e R s m args below meth c D cy sK sV vF β Q ade te se k (i + 1) ls (.inl u :: st) σ) := h
  obtain ⟨hu, hg, h⟩ := h
  simp only [mz_ch1] at hc
  obtain ⟨hd, hp⟩ := mz_D_ok hc
  exact lv_i2c hx hb hd (mz_i2c hu) (mz_K_at h hp h1 h2 h3 hH rfl)

theorem mz_s75 (hR : R.cells = σ0.1 - te ∧ R.slots = σ0.2.1 - se) (hF : mz_F p R s m args meth c D cy sK sV vF β k) (hc : mz_ch1 k i 75 a b c9 x9 y9 = true) (h : mz_st1 (fun ls st σ => mz_gr σ σ0 ∧ mz_K p l e R s m args below meth c D cy sK sV vF β Q ade te se k (i + 1) ls st σ) call rt (75, a, b, c9, x9, y9) ls st σ) : mz_K p l e R s m args below meth c D cy sK sV vF β Q ade te se k i ls st σ := by
  obtain ⟨hx, hb, hr, hml, hown, hlk, hnm, hts, hCx, hfr, hlo⟩ := hF
  intro ad lsA H locs h1 h2 h3 hH
  have hA : ∀ q : Nat, s.heap.size ≤ q → β q := hCx.2.2.2.2.2.2.2.1
  have hS := hH.2.2.2.1
  rcases st with _ | ⟨v0, st⟩
  · exact False.elim h
  rcases v0 with v | w0
  case inr => exact False.elim h
  rcases st with _ | ⟨u0, st⟩
  · exact False.elim h
  rcases u0 with u | w0
  case inr => exact False.elim h
  have h : st.length ≤ 8 ∧ (mz_gr σ σ0 ∧ mz_K p l e R s m args below meth c D cy sK sV vF β Q ade te se k (i + 1) ls (.inl (max u v) :: st) σ) := h
  obtain ⟨hlen, hg, h⟩ := h
  simp only [mz_ch1, Bool.and_eq_true, decide_eq_true_eq] at hc
  obtain ⟨⟨hc, hw⟩, h1d⟩ := hc
  obtain ⟨hd, hp⟩ := mz_D_ok hc
  have wv : mz_w v := mz_H_hd hH
  have wu : mz_w u := mz_H_hd (mz_H_tl hH)
  have hg1 := hg.1
  have hg2 := hg.2
  rw [List.map_cons, List.map_cons, mz_v_i, mz_v_i]
  refine va_mmax hx hb (by rw [hml]; exact hH.2.2.2.2.2.2.1.1.symm) hown (hts _ (mz_W_ok hw)) (hts _ mz_wd8) (hts _ mz_wd12) (hts _ mz_wd9) (by omega) (by rw [mz_cats hCx.2.2.2.2.2.2.1]; omega) (by rw [hR.1]; omega) (by rw [hR.2]; omega) hd (mz_K_at h hp h1 h2 h3 (mz_H_cons (v := .inl (max u v)) (mz_H_tl (mz_H_tl hH)) (show mz_w (max u v) by unfold mz_w at wu wv ⊢; omega)) ?_)
  rw [List.map_cons, mz_v_i]
  congr 2
  by_cases hq : u < v
  · rw [if_pos ((mz_ltI wu wv).mpr hq)]
    congr 1
    omega
  · rw [if_neg (fun r => hq ((mz_ltI wu wv).mp r))]
    congr 1
    omega

theorem mz_s76 (hR : R.cells = σ0.1 - te ∧ R.slots = σ0.2.1 - se) (hF : mz_F p R s m args meth c D cy sK sV vF β k) (hc : mz_ch1 k i 76 a b c9 x9 y9 = true) (h : mz_st1 (fun ls st σ => mz_gr σ σ0 ∧ mz_K p l e R s m args below meth c D cy sK sV vF β Q ade te se k (i + 1) ls st σ) call rt (76, a, b, c9, x9, y9) ls st σ) : mz_K p l e R s m args below meth c D cy sK sV vF β Q ade te se k i ls st σ := by
  obtain ⟨hx, hb, hr, hml, hown, hlk, hnm, hts, hCx, hfr, hlo⟩ := hF
  intro ad lsA H locs h1 h2 h3 hH
  have hA : ∀ q : Nat, s.heap.size ≤ q → β q := hCx.2.2.2.2.2.2.2.1
  have hS := hH.2.2.2.1
  rcases st with _ | ⟨v0, st⟩
  · exact False.elim h
  rcases v0 with v | w0
  case inr => exact False.elim h
  rcases st with _ | ⟨u0, st⟩
  · exact False.elim h
  rcases u0 with u | w0
  case inr => exact False.elim h
  have h : st.length ≤ 8 ∧ (mz_gr σ σ0 ∧ mz_K p l e R s m args below meth c D cy sK sV vF β Q ade te se k (i + 1) ls (.inl (min u v) :: st) σ) := h
  obtain ⟨hlen, hg, h⟩ := h
  simp only [mz_ch1, Bool.and_eq_true, decide_eq_true_eq] at hc
  obtain ⟨⟨hc, hw⟩, h1d⟩ := hc
  obtain ⟨hd, hp⟩ := mz_D_ok hc
  have wv : mz_w v := mz_H_hd hH
  have wu : mz_w u := mz_H_hd (mz_H_tl hH)
  have hg1 := hg.1
  have hg2 := hg.2
  rw [List.map_cons, List.map_cons, mz_v_i, mz_v_i]
  refine va_mmin hx hb (by rw [hml]; exact hH.2.2.2.2.2.2.1.1.symm) hown (hts _ (mz_W_ok hw)) (hts _ mz_wd10) (hts _ mz_wd12) (hts _ mz_wd11) (by omega) (by rw [mz_cats hCx.2.2.2.2.2.2.1]; omega) (by rw [hR.1]; omega) (by rw [hR.2]; omega) hd (mz_K_at h hp h1 h2 h3 (mz_H_cons (v := .inl (min u v)) (mz_H_tl (mz_H_tl hH)) (show mz_w (min u v) by unfold mz_w at wu wv ⊢; omega)) ?_)
  rw [List.map_cons, mz_v_i]
  congr 2
  by_cases hq : v < u
  · rw [if_pos ((mz_ltI wv wu).mpr hq)]
    congr 1
    omega
  · rw [if_neg (fun r => hq ((mz_ltI wv wu).mp r))]
    congr 1
    omega

end Sn6
