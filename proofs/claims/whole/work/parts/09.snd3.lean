/-! The operations that touch no cell, one by one. -/
section Sn3
variable {p : Program} {l : Launch} {e : Env} {R : Room} {s : State} {m : MethodId} {args : Array Value} {below : List Frame} {meth : Method} {c : Code} {D : va_G} {cy : Nat → ClassId} {sK sV : Nat → Nat} {vF : Value} {β : Nat → Prop} {Q : State → Prop} {ade : Nat → Nat} {te se : Nat} {k i a c9 x9 y9 : Nat} {b : Int} {σ : mz_S} {ls : mz_Ls} {st : List mz_V}
theorem mz_s0 (hF : mz_F p R s m args meth c D cy sK sV vF β k) (hc : mz_ch0 k i 0 a b c9 x9 y9 = true) (h : mz_st0 (fun ls st σ => mz_K p l e R s m args below meth c D cy sK sV vF β Q ade te se k (i + 1) ls st σ) (fun a ls st σ => mz_K p l e R s m args below meth c D cy sK sV vF β Q ade te se k a ls st σ) (0, a, b, c9, x9, y9) ls st σ) : mz_K p l e R s m args below meth c D cy sK sV vF β Q ade te se k i ls st σ := by
  obtain ⟨hx, hb, hr, hml, hown, hlk, hnm, hts, hCx, hfr, hlo⟩ := hF
  intro ad lsA H locs h1 h2 h3 hH
  have h : mz_K p l e R s m args below meth c D cy sK sV vF β Q ade te se k (i + 1) ls (.inl b :: st) σ := h
  simp only [mz_ch0, Bool.and_eq_true, decide_eq_true_eq] at hc
  obtain ⟨hw, hc⟩ := hc
  have hH2 := mz_H_cons hH (v := .inl b) hw
  match a, hc with
  | 0, hc =>
    obtain ⟨hd, hp⟩ := mz_D_ok hc
    exact lv_iconst hx hb hd rfl (mz_K_at h hp h1 h2 h3 hH2 rfl)
  | 1, hc =>
    simp only [Bool.and_eq_true, decide_eq_true_eq] at hc
    obtain ⟨hd, hp⟩ := mz_D_ok hc.1
    exact lv_bipush hx hb hd hc.2 (mz_K_at h hp h1 h2 h3 hH2 rfl)
  | 2, hc =>
    simp only [Bool.and_eq_true, decide_eq_true_eq] at hc
    obtain ⟨hd, hp⟩ := mz_D_ok hc.1
    exact lv_sipush hx hb hd hc.2 (mz_K_at h hp h1 h2 h3 hH2 rfl)
  | 3, hc =>
    simp only [Bool.and_eq_true] at hc
    obtain ⟨hd, hp⟩ := mz_D_ok hc.1
    exact lv_ldc hx hb hown (hts _ (mz_W_ok hc.2)) hd (mz_K_at h hp h1 h2 h3 hH2 rfl)
  | a + 4, hc =>
    simp only [Bool.and_eq_true] at hc
    obtain ⟨hd, hp⟩ := mz_D_ok hc.1
    exact lv_ldcw hx hb hown (hts _ (mz_W_ok hc.2)) hd (mz_K_at h hp h1 h2 h3 hH2 rfl)

theorem mz_s1 (hF : mz_F p R s m args meth c D cy sK sV vF β k) (hc : mz_ch0 k i 1 a b c9 x9 y9 = true) (h : mz_st0 (fun ls st σ => mz_K p l e R s m args below meth c D cy sK sV vF β Q ade te se k (i + 1) ls st σ) (fun a ls st σ => mz_K p l e R s m args below meth c D cy sK sV vF β Q ade te se k a ls st σ) (1, a, b, c9, x9, y9) ls st σ) : mz_K p l e R s m args below meth c D cy sK sV vF β Q ade te se k i ls st σ := by
  obtain ⟨hx, hb, hr, hml, hown, hlk, hnm, hts, hCx, hfr, hlo⟩ := hF
  intro ad lsA H locs h1 h2 h3 hH
  obtain ⟨v, hl, h⟩ := mz_lk_spec h
  rcases v with n | r
  case inr => exact False.elim h
  have h : mz_K p l e R s m args below meth c D cy sK sV vF β Q ade te se k (i + 1) ls (.inl n :: st) σ := h
  have hH2 := mz_H_cons hH (mz_H_ls hH hl)
  simp only [mz_ch0] at hc
  split at hc
  · simp only [Bool.and_eq_true, decide_eq_true_eq] at hc
    obtain ⟨hd, hp⟩ := mz_D_ok hc.2
    exact lv_iload_n hx hb hd (Nat.mod_eq_of_lt hc.1) (mz_H_at hH hl) (mz_K_at h hp h1 h2 h3 hH2 rfl)
  · obtain ⟨hd, hp⟩ := mz_D_ok hc
    exact lv_iload hx hb hd (mz_H_at hH hl) (mz_K_at h hp h1 h2 h3 hH2 rfl)

theorem mz_s2 (hF : mz_F p R s m args meth c D cy sK sV vF β k) (hc : mz_ch0 k i 2 a b c9 x9 y9 = true) (h : mz_st0 (fun ls st σ => mz_K p l e R s m args below meth c D cy sK sV vF β Q ade te se k (i + 1) ls st σ) (fun a ls st σ => mz_K p l e R s m args below meth c D cy sK sV vF β Q ade te se k a ls st σ) (2, a, b, c9, x9, y9) ls st σ) : mz_K p l e R s m args below meth c D cy sK sV vF β Q ade te se k i ls st σ := by
  obtain ⟨hx, hb, hr, hml, hown, hlk, hnm, hts, hCx, hfr, hlo⟩ := hF
  intro ad lsA H locs h1 h2 h3 hH
  obtain ⟨v, hl, h⟩ := mz_lk_spec h
  rcases v with n | r
  case inl => exact False.elim h
  have h : mz_K p l e R s m args below meth c D cy sK sV vF β Q ade te se k (i + 1) ls (.inr r :: st) σ := h
  have hH2 := mz_H_cons hH (mz_H_ls hH hl)
  have hat := mz_H_at hH hl
  simp only [mz_ch0] at hc
  rcases mz_isr hCx.2.2.2.2.2.2.1 ad sK sV r with hn | ⟨q, hn⟩
  · rw [hn] at hat
    split at hc
    · simp only [Bool.and_eq_true, decide_eq_true_eq] at hc
      obtain ⟨hd, hp⟩ := mz_D_ok hc.2
      exact lv_aload_nN hx hb hd (Nat.mod_eq_of_lt hc.1) hat (mz_K_at h hp h1 h2 h3 hH2 (by rw [List.map_cons, hn]))
    · obtain ⟨hd, hp⟩ := mz_D_ok hc
      exact lv_aloadN hx hb hd hat (mz_K_at h hp h1 h2 h3 hH2 (by rw [List.map_cons, hn]))
  · rw [hn] at hat
    split at hc
    · simp only [Bool.and_eq_true, decide_eq_true_eq] at hc
      obtain ⟨hd, hp⟩ := mz_D_ok hc.2
      exact lv_aload_n hx hb hd (Nat.mod_eq_of_lt hc.1) hat (mz_K_at h hp h1 h2 h3 hH2 (by rw [List.map_cons, hn]))
    · obtain ⟨hd, hp⟩ := mz_D_ok hc
      exact lv_aload hx hb hd hat (mz_K_at h hp h1 h2 h3 hH2 (by rw [List.map_cons, hn]))

theorem mz_s3 (hF : mz_F p R s m args meth c D cy sK sV vF β k) (hc : mz_ch0 k i 3 a b c9 x9 y9 = true) (h : mz_st0 (fun ls st σ => mz_K p l e R s m args below meth c D cy sK sV vF β Q ade te se k (i + 1) ls st σ) (fun a ls st σ => mz_K p l e R s m args below meth c D cy sK sV vF β Q ade te se k a ls st σ) (3, a, b, c9, x9, y9) ls st σ) : mz_K p l e R s m args below meth c D cy sK sV vF β Q ade te se k i ls st σ := by
  obtain ⟨hx, hb, hr, hml, hown, hlk, hnm, hts, hCx, hfr, hlo⟩ := hF
  intro ad lsA H locs h1 h2 h3 hH
  rcases st with _ | ⟨v, st⟩
  · exact False.elim h
  rcases v with n | r
  case inr => exact False.elim h
  have h : mz_K p l e R s m args below meth c D cy sK sV vF β Q ade te se k (i + 1) (ls.set a (some (.inl n))) st σ := h
  have hH2 := mz_H_tl hH
  simp only [mz_ch0, Bool.and_eq_true, decide_eq_true_eq] at hc
  obtain ⟨hL, hc⟩ := hc
  split at hc
  · simp only [Bool.and_eq_true, decide_eq_true_eq] at hc
    obtain ⟨hd, hp⟩ := mz_D_ok hc.2
    refine lv_istore_n (x := Int32.ofInt n) (lv' := _) hx hb hd (Nat.mod_eq_of_lt hc.1) hH.2.2.2.2.2.2.1 hL rfl (fun lsB hB => ?_)
    exact mz_K_at h hp h1 h2 h3 (mz_H_set hCx.2.2.2.2.2.2.1 hH2 (mz_H_hd hH) hB) rfl
  · obtain ⟨hd, hp⟩ := mz_D_ok hc
    refine lv_istore (x := Int32.ofInt n) (lv' := _) hx hb hd hH.2.2.2.2.2.2.1 hL rfl (fun lsB hB => ?_)
    exact mz_K_at h hp h1 h2 h3 (mz_H_set hCx.2.2.2.2.2.2.1 hH2 (mz_H_hd hH) hB) rfl

theorem mz_s4 (hF : mz_F p R s m args meth c D cy sK sV vF β k) (hc : mz_ch0 k i 4 a b c9 x9 y9 = true) (h : mz_st0 (fun ls st σ => mz_K p l e R s m args below meth c D cy sK sV vF β Q ade te se k (i + 1) ls st σ) (fun a ls st σ => mz_K p l e R s m args below meth c D cy sK sV vF β Q ade te se k a ls st σ) (4, a, b, c9, x9, y9) ls st σ) : mz_K p l e R s m args below meth c D cy sK sV vF β Q ade te se k i ls st σ := by
  obtain ⟨hx, hb, hr, hml, hown, hlk, hnm, hts, hCx, hfr, hlo⟩ := hF
  intro ad lsA H locs h1 h2 h3 hH
  rcases st with _ | ⟨v, st⟩
  · exact False.elim h
  rcases v with n | r
  case inl => exact False.elim h
  have h : mz_K p l e R s m args below meth c D cy sK sV vF β Q ade te se k (i + 1) (ls.set a (some (.inr r))) st σ := h
  have hH2 := mz_H_tl hH
  simp only [mz_ch0, Bool.and_eq_true, decide_eq_true_eq] at hc
  obtain ⟨hL, hc⟩ := hc
  rw [List.map_cons]
  rcases mz_isr hCx.2.2.2.2.2.2.1 ad sK sV r with hn | ⟨q, hn⟩
  · rw [hn]
    split at hc
    · simp only [Bool.and_eq_true, decide_eq_true_eq] at hc
      obtain ⟨hd, hp⟩ := mz_D_ok hc.2
      refine lv_astore_nN (lv' := _) hx hb hd (Nat.mod_eq_of_lt hc.1) hH.2.2.2.2.2.2.1 hL rfl (fun lsB hB => ?_)
      rw [← hn] at hB
      exact mz_K_at h hp h1 h2 h3 (mz_H_set hCx.2.2.2.2.2.2.1 hH2 (mz_H_hd hH) hB) rfl
    · obtain ⟨hd, hp⟩ := mz_D_ok hc
      refine lv_astoreN (lv' := _) hx hb hd hH.2.2.2.2.2.2.1 hL rfl (fun lsB hB => ?_)
      rw [← hn] at hB
      exact mz_K_at h hp h1 h2 h3 (mz_H_set hCx.2.2.2.2.2.2.1 hH2 (mz_H_hd hH) hB) rfl
  · rw [hn]
    split at hc
    · simp only [Bool.and_eq_true, decide_eq_true_eq] at hc
      obtain ⟨hd, hp⟩ := mz_D_ok hc.2
      refine lv_astore_n (x := q) (lv' := _) hx hb hd (Nat.mod_eq_of_lt hc.1) hH.2.2.2.2.2.2.1 hL rfl (fun lsB hB => ?_)
      rw [← hn] at hB
      exact mz_K_at h hp h1 h2 h3 (mz_H_set hCx.2.2.2.2.2.2.1 hH2 (mz_H_hd hH) hB) rfl
    · obtain ⟨hd, hp⟩ := mz_D_ok hc
      refine lv_astore (x := q) (lv' := _) hx hb hd hH.2.2.2.2.2.2.1 hL rfl (fun lsB hB => ?_)
      rw [← hn] at hB
      exact mz_K_at h hp h1 h2 h3 (mz_H_set hCx.2.2.2.2.2.2.1 hH2 (mz_H_hd hH) hB) rfl

theorem mz_s5 (hF : mz_F p R s m args meth c D cy sK sV vF β k) (hc : mz_ch0 k i 5 a b c9 x9 y9 = true) (h : mz_st0 (fun ls st σ => mz_K p l e R s m args below meth c D cy sK sV vF β Q ade te se k (i + 1) ls st σ) (fun a ls st σ => mz_K p l e R s m args below meth c D cy sK sV vF β Q ade te se k a ls st σ) (5, a, b, c9, x9, y9) ls st σ) : mz_K p l e R s m args below meth c D cy sK sV vF β Q ade te se k i ls st σ := by
  obtain ⟨hx, hb, hr, hml, hown, hlk, hnm, hts, hCx, hfr, hlo⟩ := hF
  intro ad lsA H locs h1 h2 h3 hH
  obtain ⟨v, hl, h⟩ := mz_lk_spec h
  rcases v with n | r
  case inr => exact False.elim h
  have h : mz_w (n + b) ∧ mz_K p l e R s m args below meth c D cy sK sV vF β Q ade te se k (i + 1) (ls.set a (some (.inl (n + b)))) st σ := h
  obtain ⟨hw, h⟩ := h
  simp only [mz_ch0, Bool.and_eq_true, decide_eq_true_eq] at hc
  obtain ⟨hL, hc⟩ := hc
  obtain ⟨hd, hp⟩ := mz_D_ok hc
  obtain ⟨j, hj⟩ := List.getElem?_of_mem (mz_lv_mem (ad := ad) (sK := sK) (sV := sV) (vF := vF) (q := (a, mz_v ad sK sV vF (.inl n))) |>.mpr ⟨.inl n, hl, rfl⟩)
  refine lv_iinc (v := Int32.ofInt (n + b)) (lv' := _) hx hb hd hH.2.2.2.2.2.2.1 hj (mz_ad n b) hL rfl (fun lsB hB => ?_)
  exact mz_K_at h hp h1 h2 h3 (mz_H_set (v := .inl (n + b)) hCx.2.2.2.2.2.2.1 hH hw hB) rfl

theorem mz_s6 (hF : mz_F p R s m args meth c D cy sK sV vF β k) (hc : mz_ch0 k i 6 a b c9 x9 y9 = true) (h : mz_st0 (fun ls st σ => mz_K p l e R s m args below meth c D cy sK sV vF β Q ade te se k (i + 1) ls st σ) (fun a ls st σ => mz_K p l e R s m args below meth c D cy sK sV vF β Q ade te se k a ls st σ) (6, a, b, c9, x9, y9) ls st σ) : mz_K p l e R s m args below meth c D cy sK sV vF β Q ade te se k i ls st σ := by
  obtain ⟨hx, hb, hr, hml, hown, hlk, hnm, hts, hCx, hfr, hlo⟩ := hF
  intro ad lsA H locs h1 h2 h3 hH
  rcases st with _ | ⟨v, st⟩
  · exact False.elim h
  rcases v with v | r
  case inr => exact False.elim h
  rcases st with _ | ⟨u, st⟩
  · exact False.elim h
  rcases u with u | r
  case inr => exact False.elim h
  have h : mz_w (u + v) ∧ mz_K p l e R s m args below meth c D cy sK sV vF β Q ade te se k (i + 1) ls (.inl (u + v) :: st) σ := h
  obtain ⟨hd, hp⟩ := mz_D_ok hc
  refine lv_iadd hx hb hd ?_
  rw [mz_ad]
  exact mz_K_at h.2 hp h1 h2 h3 (mz_H_cons (mz_H_tl (mz_H_tl hH)) h.1) rfl

theorem mz_s7 (hF : mz_F p R s m args meth c D cy sK sV vF β k) (hc : mz_ch0 k i 7 a b c9 x9 y9 = true) (h : mz_st0 (fun ls st σ => mz_K p l e R s m args below meth c D cy sK sV vF β Q ade te se k (i + 1) ls st σ) (fun a ls st σ => mz_K p l e R s m args below meth c D cy sK sV vF β Q ade te se k a ls st σ) (7, a, b, c9, x9, y9) ls st σ) : mz_K p l e R s m args below meth c D cy sK sV vF β Q ade te se k i ls st σ := by
  obtain ⟨hx, hb, hr, hml, hown, hlk, hnm, hts, hCx, hfr, hlo⟩ := hF
  intro ad lsA H locs h1 h2 h3 hH
  rcases st with _ | ⟨v, st⟩
  · exact False.elim h
  rcases v with v | r
  case inr => exact False.elim h
  rcases st with _ | ⟨u, st⟩
  · exact False.elim h
  rcases u with u | r
  case inr => exact False.elim h
  have h : mz_w (u - v) ∧ mz_K p l e R s m args below meth c D cy sK sV vF β Q ade te se k (i + 1) ls (.inl (u - v) :: st) σ := h
  obtain ⟨hd, hp⟩ := mz_D_ok hc
  refine lv_isub hx hb hd ?_
  rw [mz_sb]
  exact mz_K_at h.2 hp h1 h2 h3 (mz_H_cons (mz_H_tl (mz_H_tl hH)) h.1) rfl

theorem mz_s8 (hF : mz_F p R s m args meth c D cy sK sV vF β k) (hc : mz_ch0 k i 8 a b c9 x9 y9 = true) (h : mz_st0 (fun ls st σ => mz_K p l e R s m args below meth c D cy sK sV vF β Q ade te se k (i + 1) ls st σ) (fun a ls st σ => mz_K p l e R s m args below meth c D cy sK sV vF β Q ade te se k a ls st σ) (8, a, b, c9, x9, y9) ls st σ) : mz_K p l e R s m args below meth c D cy sK sV vF β Q ade te se k i ls st σ := by
  obtain ⟨hx, hb, hr, hml, hown, hlk, hnm, hts, hCx, hfr, hlo⟩ := hF
  intro ad lsA H locs h1 h2 h3 hH
  rcases st with _ | ⟨v, st⟩
  · exact False.elim h
  rcases v with v | r
  case inr => exact False.elim h
  rcases st with _ | ⟨u, st⟩
  · exact False.elim h
  rcases u with u | r
  case inr => exact False.elim h
  have h : mz_w (u * v) ∧ mz_K p l e R s m args below meth c D cy sK sV vF β Q ade te se k (i + 1) ls (.inl (u * v) :: st) σ := h
  obtain ⟨hd, hp⟩ := mz_D_ok hc
  refine lv_imul hx hb hd ?_
  rw [mz_ml]
  exact mz_K_at h.2 hp h1 h2 h3 (mz_H_cons (mz_H_tl (mz_H_tl hH)) h.1) rfl

theorem mz_s9 (hF : mz_F p R s m args meth c D cy sK sV vF β k) (hc : mz_ch0 k i 9 a b c9 x9 y9 = true) (h : mz_st0 (fun ls st σ => mz_K p l e R s m args below meth c D cy sK sV vF β Q ade te se k (i + 1) ls st σ) (fun a ls st σ => mz_K p l e R s m args below meth c D cy sK sV vF β Q ade te se k a ls st σ) (9, a, b, c9, x9, y9) ls st σ) : mz_K p l e R s m args below meth c D cy sK sV vF β Q ade te se k i ls st σ := by
  obtain ⟨hx, hb, hr, hml, hown, hlk, hnm, hts, hCx, hfr, hlo⟩ := hF
  intro ad lsA H locs h1 h2 h3 hH
  rcases st with _ | ⟨v, st⟩
  · exact False.elim h
  rcases v with v | r
  case inr => exact False.elim h
  rcases st with _ | ⟨u, st⟩
  · exact False.elim h
  rcases u with u | r
  case inr => exact False.elim h
  have h : (0 < v ∧ 0 ≤ u) ∧ mz_K p l e R s m args below meth c D cy sK sV vF β Q ade te se k (i + 1) ls (.inl (u / v) :: st) σ := h
  have wv : mz_w v := mz_H_hd hH
  have wu : mz_w u := mz_H_hd (mz_H_tl hH)
  obtain ⟨hd, hp⟩ := mz_D_ok hc
  refine lv_idiv hx hb hd (mz_n0 wv h.1.1) ?_
  rw [mz_dv wu wv h.1.1 h.1.2]
  exact mz_K_at h.2 hp h1 h2 h3 (mz_H_cons (mz_H_tl (mz_H_tl hH)) (mz_wdiv wu h.1.1 h.1.2)) rfl

theorem mz_s10 (hF : mz_F p R s m args meth c D cy sK sV vF β k) (hc : mz_ch0 k i 10 a b c9 x9 y9 = true) (h : mz_st0 (fun ls st σ => mz_K p l e R s m args below meth c D cy sK sV vF β Q ade te se k (i + 1) ls st σ) (fun a ls st σ => mz_K p l e R s m args below meth c D cy sK sV vF β Q ade te se k a ls st σ) (10, a, b, c9, x9, y9) ls st σ) : mz_K p l e R s m args below meth c D cy sK sV vF β Q ade te se k i ls st σ := by
  obtain ⟨hx, hb, hr, hml, hown, hlk, hnm, hts, hCx, hfr, hlo⟩ := hF
  intro ad lsA H locs h1 h2 h3 hH
  rcases st with _ | ⟨v, st⟩
  · exact False.elim h
  rcases v with v | r
  case inr => exact False.elim h
  rcases st with _ | ⟨u, st⟩
  · exact False.elim h
  rcases u with u | r
  case inr => exact False.elim h
  have h : (0 < v ∧ 0 ≤ u) ∧ mz_K p l e R s m args below meth c D cy sK sV vF β Q ade te se k (i + 1) ls (.inl (u % v) :: st) σ := h
  have wv : mz_w v := mz_H_hd hH
  have wu : mz_w u := mz_H_hd (mz_H_tl hH)
  obtain ⟨hd, hp⟩ := mz_D_ok hc
  refine lv_irem hx hb hd (mz_n0 wv h.1.1) ?_
  rw [mz_rm wu wv h.1.1 h.1.2]
  exact mz_K_at h.2 hp h1 h2 h3 (mz_H_cons (mz_H_tl (mz_H_tl hH)) (mz_wmod wv h.1.1)) rfl

theorem mz_s11 (hF : mz_F p R s m args meth c D cy sK sV vF β k) (hc : mz_ch0 k i 11 a b c9 x9 y9 = true) (h : mz_st0 (fun ls st σ => mz_K p l e R s m args below meth c D cy sK sV vF β Q ade te se k (i + 1) ls st σ) (fun a ls st σ => mz_K p l e R s m args below meth c D cy sK sV vF β Q ade te se k a ls st σ) (11, a, b, c9, x9, y9) ls st σ) : mz_K p l e R s m args below meth c D cy sK sV vF β Q ade te se k i ls st σ := by
  obtain ⟨hx, hb, hr, hml, hown, hlk, hnm, hts, hCx, hfr, hlo⟩ := hF
  intro ad lsA H locs h1 h2 h3 hH
  rcases st with _ | ⟨v, st⟩
  · exact False.elim h
  rcases v with v | r
  case inr => exact False.elim h
  rcases st with _ | ⟨u, st⟩
  · exact False.elim h
  rcases u with u | r
  case inr => exact False.elim h
  have h : mz_K p l e R s m args below meth c D cy sK sV vF β Q ade te se k (i + 1) ls (.inl (mz_and u v) :: st) σ := h
  obtain ⟨hd, hp⟩ := mz_D_ok hc
  refine lv_iand hx hb hd ?_
  exact mz_K_at h hp h1 h2 h3 (mz_H_cons (v := .inl (mz_and u v)) (mz_H_tl (mz_H_tl hH)) (mz_wt _)) (by rw [List.map_cons, mz_v_i, mz_and, Int32.ofInt_toInt])

theorem mz_s12 (hF : mz_F p R s m args meth c D cy sK sV vF β k) (hc : mz_ch0 k i 12 a b c9 x9 y9 = true) (h : mz_st0 (fun ls st σ => mz_K p l e R s m args below meth c D cy sK sV vF β Q ade te se k (i + 1) ls st σ) (fun a ls st σ => mz_K p l e R s m args below meth c D cy sK sV vF β Q ade te se k a ls st σ) (12, a, b, c9, x9, y9) ls st σ) : mz_K p l e R s m args below meth c D cy sK sV vF β Q ade te se k i ls st σ := by
  obtain ⟨hx, hb, hr, hml, hown, hlk, hnm, hts, hCx, hfr, hlo⟩ := hF
  intro ad lsA H locs h1 h2 h3 hH
  rcases st with _ | ⟨v, st⟩
  · exact False.elim h
  rcases v with v | r
  case inr => exact False.elim h
  rcases st with _ | ⟨u, st⟩
  · exact False.elim h
  rcases u with u | r
  case inr => exact False.elim h
  have h : mz_K p l e R s m args below meth c D cy sK sV vF β Q ade te se k (i + 1) ls (.inl (mz_or u v) :: st) σ := h
  obtain ⟨hd, hp⟩ := mz_D_ok hc
  refine lv_ior hx hb hd ?_
  exact mz_K_at h hp h1 h2 h3 (mz_H_cons (v := .inl (mz_or u v)) (mz_H_tl (mz_H_tl hH)) (mz_wt _)) (by rw [List.map_cons, mz_v_i, mz_or, Int32.ofInt_toInt])

theorem mz_s13 (hF : mz_F p R s m args meth c D cy sK sV vF β k) (hc : mz_ch0 k i 13 a b c9 x9 y9 = true) (h : mz_st0 (fun ls st σ => mz_K p l e R s m args below meth c D cy sK sV vF β Q ade te se k (i + 1) ls st σ) (fun a ls st σ => mz_K p l e R s m args below meth c D cy sK sV vF β Q ade te se k a ls st σ) (13, a, b, c9, x9, y9) ls st σ) : mz_K p l e R s m args below meth c D cy sK sV vF β Q ade te se k i ls st σ := by
  obtain ⟨hx, hb, hr, hml, hown, hlk, hnm, hts, hCx, hfr, hlo⟩ := hF
  intro ad lsA H locs h1 h2 h3 hH
  rcases st with _ | ⟨v, st⟩
  · exact False.elim h
  rcases v with v | r
  case inr => exact False.elim h
  rcases st with _ | ⟨u, st⟩
  · exact False.elim h
  rcases u with u | r
  case inr => exact False.elim h
  have h : mz_K p l e R s m args below meth c D cy sK sV vF β Q ade te se k (i + 1) ls (.inl (mz_xor u v) :: st) σ := h
  obtain ⟨hd, hp⟩ := mz_D_ok hc
  refine lv_ixor hx hb hd ?_
  exact mz_K_at h hp h1 h2 h3 (mz_H_cons (v := .inl (mz_xor u v)) (mz_H_tl (mz_H_tl hH)) (mz_wt _)) (by rw [List.map_cons, mz_v_i, mz_xor, Int32.ofInt_toInt])

theorem mz_s14 (hF : mz_F p R s m args meth c D cy sK sV vF β k) (hc : mz_ch0 k i 14 a b c9 x9 y9 = true) (h : mz_st0 (fun ls st σ => mz_K p l e R s m args below meth c D cy sK sV vF β Q ade te se k (i + 1) ls st σ) (fun a ls st σ => mz_K p l e R s m args below meth c D cy sK sV vF β Q ade te se k a ls st σ) (14, a, b, c9, x9, y9) ls st σ) : mz_K p l e R s m args below meth c D cy sK sV vF β Q ade te se k i ls st σ := by
  obtain ⟨hx, hb, hr, hml, hown, hlk, hnm, hts, hCx, hfr, hlo⟩ := hF
  intro ad lsA H locs h1 h2 h3 hH
  rcases st with _ | ⟨v, st⟩
  · exact False.elim h
  rcases v with v | r
  case inr => exact False.elim h
  rcases st with _ | ⟨u, st⟩
  · exact False.elim h
  rcases u with u | r
  case inr => exact False.elim h
  have h : mz_K p l e R s m args below meth c D cy sK sV vF β Q ade te se k (i + 1) ls (.inl (mz_shl u v) :: st) σ := h
  obtain ⟨hd, hp⟩ := mz_D_ok hc
  refine lv_ishl hx hb hd ?_
  exact mz_K_at h hp h1 h2 h3 (mz_H_cons (v := .inl (mz_shl u v)) (mz_H_tl (mz_H_tl hH)) (mz_wt _)) (by rw [List.map_cons, mz_v_i, mz_shl, Int32.ofInt_toInt])

theorem mz_s15 (hF : mz_F p R s m args meth c D cy sK sV vF β k) (hc : mz_ch0 k i 15 a b c9 x9 y9 = true) (h : mz_st0 (fun ls st σ => mz_K p l e R s m args below meth c D cy sK sV vF β Q ade te se k (i + 1) ls st σ) (fun a ls st σ => mz_K p l e R s m args below meth c D cy sK sV vF β Q ade te se k a ls st σ) (15, a, b, c9, x9, y9) ls st σ) : mz_K p l e R s m args below meth c D cy sK sV vF β Q ade te se k i ls st σ := by
  obtain ⟨hx, hb, hr, hml, hown, hlk, hnm, hts, hCx, hfr, hlo⟩ := hF
  intro ad lsA H locs h1 h2 h3 hH
  rcases st with _ | ⟨v, st⟩
  · exact False.elim h
  rcases v with v | r
  case inr => exact False.elim h
  rcases st with _ | ⟨u, st⟩
  · exact False.elim h
  rcases u with u | r
  case inr => exact False.elim h
  have h : mz_K p l e R s m args below meth c D cy sK sV vF β Q ade te se k (i + 1) ls (.inl (mz_shr u v) :: st) σ := h
  obtain ⟨hd, hp⟩ := mz_D_ok hc
  refine lv_ishr hx hb hd ?_
  exact mz_K_at h hp h1 h2 h3 (mz_H_cons (v := .inl (mz_shr u v)) (mz_H_tl (mz_H_tl hH)) (mz_wt _)) (by rw [List.map_cons, mz_v_i, mz_shr, Int32.ofInt_toInt])

theorem mz_s16 (hF : mz_F p R s m args meth c D cy sK sV vF β k) (hc : mz_ch0 k i 16 a b c9 x9 y9 = true) (h : mz_st0 (fun ls st σ => mz_K p l e R s m args below meth c D cy sK sV vF β Q ade te se k (i + 1) ls st σ) (fun a ls st σ => mz_K p l e R s m args below meth c D cy sK sV vF β Q ade te se k a ls st σ) (16, a, b, c9, x9, y9) ls st σ) : mz_K p l e R s m args below meth c D cy sK sV vF β Q ade te se k i ls st σ := by
  obtain ⟨hx, hb, hr, hml, hown, hlk, hnm, hts, hCx, hfr, hlo⟩ := hF
  intro ad lsA H locs h1 h2 h3 hH
  rcases st with _ | ⟨v, st⟩
  · exact False.elim h
  rcases v with v | r
  case inr => exact False.elim h
  rcases st with _ | ⟨u, st⟩
  · exact False.elim h
  rcases u with u | r
  case inr => exact False.elim h
  have h : mz_K p l e R s m args below meth c D cy sK sV vF β Q ade te se k (i + 1) ls (.inl (mz_ushr u v) :: st) σ := h
  obtain ⟨hd, hp⟩ := mz_D_ok hc
  refine lv_iushr hx hb hd rfl ?_
  exact mz_K_at h hp h1 h2 h3 (mz_H_cons (v := .inl (mz_ushr u v)) (mz_H_tl (mz_H_tl hH)) (mz_wt _)) (by rw [List.map_cons, mz_v_i, mz_ushr, Int32.ofInt_toInt])

theorem mz_s17 (hF : mz_F p R s m args meth c D cy sK sV vF β k) (hc : mz_ch0 k i 17 a b c9 x9 y9 = true) (h : mz_st0 (fun ls st σ => mz_K p l e R s m args below meth c D cy sK sV vF β Q ade te se k (i + 1) ls st σ) (fun a ls st σ => mz_K p l e R s m args below meth c D cy sK sV vF β Q ade te se k a ls st σ) (17, a, b, c9, x9, y9) ls st σ) : mz_K p l e R s m args below meth c D cy sK sV vF β Q ade te se k i ls st σ := by
  obtain ⟨hx, hb, hr, hml, hown, hlk, hnm, hts, hCx, hfr, hlo⟩ := hF
  intro ad lsA H locs h1 h2 h3 hH
  rcases st with _ | ⟨u, st⟩
  · exact False.elim h
  rcases u with u | r
  case inr => exact False.elim h
  have h : mz_K p l e R s m args below meth c D cy sK sV vF β Q ade te se k (i + 1) ls (.inl (mz_i2b u) :: st) σ := h
  obtain ⟨hd, hp⟩ := mz_D_ok hc
  refine lv_i2b hx hb hd rfl ?_
  exact mz_K_at h hp h1 h2 h3 (mz_H_cons (v := .inl (mz_i2b u)) (mz_H_tl hH) (mz_wt _)) (by rw [List.map_cons, mz_v_i, mz_i2b, Int32.ofInt_toInt])

theorem mz_s18 (hF : mz_F p R s m args meth c D cy sK sV vF β k) (hc : mz_ch0 k i 18 a b c9 x9 y9 = true) (h : mz_st0 (fun ls st σ => mz_K p l e R s m args below meth c D cy sK sV vF β Q ade te se k (i + 1) ls st σ) (fun a ls st σ => mz_K p l e R s m args below meth c D cy sK sV vF β Q ade te se k a ls st σ) (18, a, b, c9, x9, y9) ls st σ) : mz_K p l e R s m args below meth c D cy sK sV vF β Q ade te se k i ls st σ := by
  obtain ⟨hx, hb, hr, hml, hown, hlk, hnm, hts, hCx, hfr, hlo⟩ := hF
  intro ad lsA H locs h1 h2 h3 hH
  rcases st with _ | ⟨v, st⟩
  · exact False.elim h
  have h : mz_K p l e R s m args below meth c D cy sK sV vF β Q ade te se k (i + 1) ls (v :: v :: st) σ := h
  obtain ⟨hd, hp⟩ := mz_D_ok hc
  exact lv_dup hx hb hd (mz_cat hCx.2.2.2.2.2.2.1 ad sK sV v) (mz_K_at h hp h1 h2 h3 (mz_H_cons hH (mz_H_hd hH)) rfl)

theorem mz_s19 (hF : mz_F p R s m args meth c D cy sK sV vF β k) (hc : mz_ch0 k i 19 a b c9 x9 y9 = true) (h : mz_st0 (fun ls st σ => mz_K p l e R s m args below meth c D cy sK sV vF β Q ade te se k (i + 1) ls st σ) (fun a ls st σ => mz_K p l e R s m args below meth c D cy sK sV vF β Q ade te se k a ls st σ) (19, a, b, c9, x9, y9) ls st σ) : mz_K p l e R s m args below meth c D cy sK sV vF β Q ade te se k i ls st σ := by
  obtain ⟨hx, hb, hr, hml, hown, hlk, hnm, hts, hCx, hfr, hlo⟩ := hF
  intro ad lsA H locs h1 h2 h3 hH
  rcases st with _ | ⟨v, st⟩
  · exact False.elim h
  have h : mz_K p l e R s m args below meth c D cy sK sV vF β Q ade te se k (i + 1) ls st σ := h
  obtain ⟨hd, hp⟩ := mz_D_ok hc
  exact lv_pop hx hb hd (mz_cat hCx.2.2.2.2.2.2.1 ad sK sV v) (mz_K_at h hp h1 h2 h3 (mz_H_tl hH) rfl)

theorem mz_s20 (hF : mz_F p R s m args meth c D cy sK sV vF β k) (hc : mz_ch0 k i 20 a b c9 x9 y9 = true) (h : mz_st0 (fun ls st σ => mz_K p l e R s m args below meth c D cy sK sV vF β Q ade te se k (i + 1) ls st σ) (fun a ls st σ => mz_K p l e R s m args below meth c D cy sK sV vF β Q ade te se k a ls st σ) (20, a, b, c9, x9, y9) ls st σ) : mz_K p l e R s m args below meth c D cy sK sV vF β Q ade te se k i ls st σ := by
  obtain ⟨hx, hb, hr, hml, hown, hlk, hnm, hts, hCx, hfr, hlo⟩ := hF
  intro ad lsA H locs h1 h2 h3 hH
  rcases st with _ | ⟨v, st⟩
  · exact False.elim h
  rcases v with v | r
  case inr => exact False.elim h
  rcases st with _ | ⟨u, st⟩
  · exact False.elim h
  rcases u with u | r
  case inr => exact False.elim h
  have h : if u = v then mz_K p l e R s m args below meth c D cy sK sV vF β Q ade te se k a ls st σ else mz_K p l e R s m args below meth c D cy sK sV vF β Q ade te se k (i + 1) ls st σ := h
  have wv : mz_w v := mz_H_hd hH
  have wu : mz_w u := mz_H_hd (mz_H_tl hH)
  obtain ⟨hd, hp, ht⟩ := mz_J_ok hc
  refine lv_icmp_eq hx hb hd ht (fun q => ?_) (fun q => ?_)
  · rw [if_pos ((mz_eqI wu wv).mp q)] at h
    exact mz_K_at h rfl h1 h2 h3 (mz_H_tl (mz_H_tl hH)) rfl
  · rw [if_neg (fun r => q ((mz_eqI wu wv).mpr r))] at h
    exact mz_K_at h hp h1 h2 h3 (mz_H_tl (mz_H_tl hH)) rfl

theorem mz_s21 (hF : mz_F p R s m args meth c D cy sK sV vF β k) (hc : mz_ch0 k i 21 a b c9 x9 y9 = true) (h : mz_st0 (fun ls st σ => mz_K p l e R s m args below meth c D cy sK sV vF β Q ade te se k (i + 1) ls st σ) (fun a ls st σ => mz_K p l e R s m args below meth c D cy sK sV vF β Q ade te se k a ls st σ) (21, a, b, c9, x9, y9) ls st σ) : mz_K p l e R s m args below meth c D cy sK sV vF β Q ade te se k i ls st σ := by
  obtain ⟨hx, hb, hr, hml, hown, hlk, hnm, hts, hCx, hfr, hlo⟩ := hF
  intro ad lsA H locs h1 h2 h3 hH
  rcases st with _ | ⟨v, st⟩
  · exact False.elim h
  rcases v with v | r
  case inr => exact False.elim h
  rcases st with _ | ⟨u, st⟩
  · exact False.elim h
  rcases u with u | r
  case inr => exact False.elim h
  have h : if u = v then mz_K p l e R s m args below meth c D cy sK sV vF β Q ade te se k (i + 1) ls st σ else mz_K p l e R s m args below meth c D cy sK sV vF β Q ade te se k a ls st σ := h
  have wv : mz_w v := mz_H_hd hH
  have wu : mz_w u := mz_H_hd (mz_H_tl hH)
  obtain ⟨hd, hp, ht⟩ := mz_J_ok hc
  refine lv_icmp_ne hx hb hd ht (fun q => ?_) (fun q => ?_)
  · rw [if_neg (fun r => q ((mz_eqI wu wv).mpr r))] at h
    exact mz_K_at h rfl h1 h2 h3 (mz_H_tl (mz_H_tl hH)) rfl
  · rw [if_pos ((mz_eqI wu wv).mp (by first | exact q | exact Classical.byContradiction fun r => q r))] at h
    exact mz_K_at h hp h1 h2 h3 (mz_H_tl (mz_H_tl hH)) rfl

theorem mz_s22 (hF : mz_F p R s m args meth c D cy sK sV vF β k) (hc : mz_ch0 k i 22 a b c9 x9 y9 = true) (h : mz_st0 (fun ls st σ => mz_K p l e R s m args below meth c D cy sK sV vF β Q ade te se k (i + 1) ls st σ) (fun a ls st σ => mz_K p l e R s m args below meth c D cy sK sV vF β Q ade te se k a ls st σ) (22, a, b, c9, x9, y9) ls st σ) : mz_K p l e R s m args below meth c D cy sK sV vF β Q ade te se k i ls st σ := by
  obtain ⟨hx, hb, hr, hml, hown, hlk, hnm, hts, hCx, hfr, hlo⟩ := hF
  intro ad lsA H locs h1 h2 h3 hH
  rcases st with _ | ⟨v, st⟩
  · exact False.elim h
  rcases v with v | r
  case inr => exact False.elim h
  rcases st with _ | ⟨u, st⟩
  · exact False.elim h
  rcases u with u | r
  case inr => exact False.elim h
  have h : if u < v then mz_K p l e R s m args below meth c D cy sK sV vF β Q ade te se k a ls st σ else mz_K p l e R s m args below meth c D cy sK sV vF β Q ade te se k (i + 1) ls st σ := h
  have wv : mz_w v := mz_H_hd hH
  have wu : mz_w u := mz_H_hd (mz_H_tl hH)
  obtain ⟨hd, hp, ht⟩ := mz_J_ok hc
  refine lv_icmp_lt hx hb hd ht (fun q => ?_) (fun q => ?_)
  · rw [if_pos ((mz_ltI wu wv).mp q)] at h
    exact mz_K_at h rfl h1 h2 h3 (mz_H_tl (mz_H_tl hH)) rfl
  · rw [if_neg (fun r => q ((mz_ltI wu wv).mpr r))] at h
    exact mz_K_at h hp h1 h2 h3 (mz_H_tl (mz_H_tl hH)) rfl

theorem mz_s23 (hF : mz_F p R s m args meth c D cy sK sV vF β k) (hc : mz_ch0 k i 23 a b c9 x9 y9 = true) (h : mz_st0 (fun ls st σ => mz_K p l e R s m args below meth c D cy sK sV vF β Q ade te se k (i + 1) ls st σ) (fun a ls st σ => mz_K p l e R s m args below meth c D cy sK sV vF β Q ade te se k a ls st σ) (23, a, b, c9, x9, y9) ls st σ) : mz_K p l e R s m args below meth c D cy sK sV vF β Q ade te se k i ls st σ := by
  obtain ⟨hx, hb, hr, hml, hown, hlk, hnm, hts, hCx, hfr, hlo⟩ := hF
  intro ad lsA H locs h1 h2 h3 hH
  rcases st with _ | ⟨v, st⟩
  · exact False.elim h
  rcases v with v | r
  case inr => exact False.elim h
  rcases st with _ | ⟨u, st⟩
  · exact False.elim h
  rcases u with u | r
  case inr => exact False.elim h
  have h : if u < v then mz_K p l e R s m args below meth c D cy sK sV vF β Q ade te se k (i + 1) ls st σ else mz_K p l e R s m args below meth c D cy sK sV vF β Q ade te se k a ls st σ := h
  have wv : mz_w v := mz_H_hd hH
  have wu : mz_w u := mz_H_hd (mz_H_tl hH)
  obtain ⟨hd, hp, ht⟩ := mz_J_ok hc
  refine lv_icmp_ge hx hb hd ht (fun q => ?_) (fun q => ?_)
  · rw [if_neg (Int.not_lt.mpr ((mz_leI wv wu).mp q))] at h
    exact mz_K_at h rfl h1 h2 h3 (mz_H_tl (mz_H_tl hH)) rfl
  · rw [if_pos (Int.not_le.mp (fun r => q ((mz_leI wv wu).mpr r)))] at h
    exact mz_K_at h hp h1 h2 h3 (mz_H_tl (mz_H_tl hH)) rfl

theorem mz_s24 (hF : mz_F p R s m args meth c D cy sK sV vF β k) (hc : mz_ch0 k i 24 a b c9 x9 y9 = true) (h : mz_st0 (fun ls st σ => mz_K p l e R s m args below meth c D cy sK sV vF β Q ade te se k (i + 1) ls st σ) (fun a ls st σ => mz_K p l e R s m args below meth c D cy sK sV vF β Q ade te se k a ls st σ) (24, a, b, c9, x9, y9) ls st σ) : mz_K p l e R s m args below meth c D cy sK sV vF β Q ade te se k i ls st σ := by
  obtain ⟨hx, hb, hr, hml, hown, hlk, hnm, hts, hCx, hfr, hlo⟩ := hF
  intro ad lsA H locs h1 h2 h3 hH
  rcases st with _ | ⟨v, st⟩
  · exact False.elim h
  rcases v with v | r
  case inr => exact False.elim h
  rcases st with _ | ⟨u, st⟩
  · exact False.elim h
  rcases u with u | r
  case inr => exact False.elim h
  have h : if u ≤ v then mz_K p l e R s m args below meth c D cy sK sV vF β Q ade te se k (i + 1) ls st σ else mz_K p l e R s m args below meth c D cy sK sV vF β Q ade te se k a ls st σ := h
  have wv : mz_w v := mz_H_hd hH
  have wu : mz_w u := mz_H_hd (mz_H_tl hH)
  obtain ⟨hd, hp, ht⟩ := mz_J_ok hc
  refine lv_icmp_gt hx hb hd ht (fun q => ?_) (fun q => ?_)
  · rw [if_neg (Int.not_le.mpr ((mz_ltI wv wu).mp q))] at h
    exact mz_K_at h rfl h1 h2 h3 (mz_H_tl (mz_H_tl hH)) rfl
  · rw [if_pos (Int.not_lt.mp (fun r => q ((mz_ltI wv wu).mpr r)))] at h
    exact mz_K_at h hp h1 h2 h3 (mz_H_tl (mz_H_tl hH)) rfl

theorem mz_s25 (hF : mz_F p R s m args meth c D cy sK sV vF β k) (hc : mz_ch0 k i 25 a b c9 x9 y9 = true) (h : mz_st0 (fun ls st σ => mz_K p l e R s m args below meth c D cy sK sV vF β Q ade te se k (i + 1) ls st σ) (fun a ls st σ => mz_K p l e R s m args below meth c D cy sK sV vF β Q ade te se k a ls st σ) (25, a, b, c9, x9, y9) ls st σ) : mz_K p l e R s m args below meth c D cy sK sV vF β Q ade te se k i ls st σ := by
  obtain ⟨hx, hb, hr, hml, hown, hlk, hnm, hts, hCx, hfr, hlo⟩ := hF
  intro ad lsA H locs h1 h2 h3 hH
  rcases st with _ | ⟨v, st⟩
  · exact False.elim h
  rcases v with v | r
  case inr => exact False.elim h
  rcases st with _ | ⟨u, st⟩
  · exact False.elim h
  rcases u with u | r
  case inr => exact False.elim h
  have h : if u ≤ v then mz_K p l e R s m args below meth c D cy sK sV vF β Q ade te se k a ls st σ else mz_K p l e R s m args below meth c D cy sK sV vF β Q ade te se k (i + 1) ls st σ := h
  have wv : mz_w v := mz_H_hd hH
  have wu : mz_w u := mz_H_hd (mz_H_tl hH)
  obtain ⟨hd, hp, ht⟩ := mz_J_ok hc
  refine lv_icmp_le hx hb hd ht (fun q => ?_) (fun q => ?_)
  · rw [if_pos ((mz_leI wu wv).mp q)] at h
    exact mz_K_at h rfl h1 h2 h3 (mz_H_tl (mz_H_tl hH)) rfl
  · rw [if_neg (fun r => q ((mz_leI wu wv).mpr r))] at h
    exact mz_K_at h hp h1 h2 h3 (mz_H_tl (mz_H_tl hH)) rfl

theorem mz_s26 (hF : mz_F p R s m args meth c D cy sK sV vF β k) (hc : mz_ch0 k i 26 a b c9 x9 y9 = true) (h : mz_st0 (fun ls st σ => mz_K p l e R s m args below meth c D cy sK sV vF β Q ade te se k (i + 1) ls st σ) (fun a ls st σ => mz_K p l e R s m args below meth c D cy sK sV vF β Q ade te se k a ls st σ) (26, a, b, c9, x9, y9) ls st σ) : mz_K p l e R s m args below meth c D cy sK sV vF β Q ade te se k i ls st σ := by
  obtain ⟨hx, hb, hr, hml, hown, hlk, hnm, hts, hCx, hfr, hlo⟩ := hF
  intro ad lsA H locs h1 h2 h3 hH
  rcases st with _ | ⟨u, st⟩
  · exact False.elim h
  rcases u with u | r
  case inr => exact False.elim h
  have h : if u = 0 then mz_K p l e R s m args below meth c D cy sK sV vF β Q ade te se k a ls st σ else mz_K p l e R s m args below meth c D cy sK sV vF β Q ade te se k (i + 1) ls st σ := h
  have wu : mz_w u := mz_H_hd hH
  obtain ⟨hd, hp, ht⟩ := mz_J_ok hc
  refine lv_if_eq hx hb hd ht (fun q => ?_) (fun q => ?_)
  · rw [if_pos ((mz_eqI wu mz_w0).mp q)] at h
    exact mz_K_at h rfl h1 h2 h3 (mz_H_tl hH) rfl
  · rw [if_neg (fun r => q ((mz_eqI wu mz_w0).mpr r))] at h
    exact mz_K_at h hp h1 h2 h3 (mz_H_tl hH) rfl

theorem mz_s27 (hF : mz_F p R s m args meth c D cy sK sV vF β k) (hc : mz_ch0 k i 27 a b c9 x9 y9 = true) (h : mz_st0 (fun ls st σ => mz_K p l e R s m args below meth c D cy sK sV vF β Q ade te se k (i + 1) ls st σ) (fun a ls st σ => mz_K p l e R s m args below meth c D cy sK sV vF β Q ade te se k a ls st σ) (27, a, b, c9, x9, y9) ls st σ) : mz_K p l e R s m args below meth c D cy sK sV vF β Q ade te se k i ls st σ := by
  obtain ⟨hx, hb, hr, hml, hown, hlk, hnm, hts, hCx, hfr, hlo⟩ := hF
  intro ad lsA H locs h1 h2 h3 hH
  rcases st with _ | ⟨u, st⟩
  · exact False.elim h
  rcases u with u | r
  case inr => exact False.elim h
  have h : if u = 0 then mz_K p l e R s m args below meth c D cy sK sV vF β Q ade te se k (i + 1) ls st σ else mz_K p l e R s m args below meth c D cy sK sV vF β Q ade te se k a ls st σ := h
  have wu : mz_w u := mz_H_hd hH
  obtain ⟨hd, hp, ht⟩ := mz_J_ok hc
  refine lv_if_ne hx hb hd ht (fun q => ?_) (fun q => ?_)
  · rw [if_neg (fun r => q ((mz_eqI wu mz_w0).mpr r))] at h
    exact mz_K_at h rfl h1 h2 h3 (mz_H_tl hH) rfl
  · rw [if_pos ((mz_eqI wu mz_w0).mp (by first | exact q | exact Classical.byContradiction fun r => q r))] at h
    exact mz_K_at h hp h1 h2 h3 (mz_H_tl hH) rfl

theorem mz_s28 (hF : mz_F p R s m args meth c D cy sK sV vF β k) (hc : mz_ch0 k i 28 a b c9 x9 y9 = true) (h : mz_st0 (fun ls st σ => mz_K p l e R s m args below meth c D cy sK sV vF β Q ade te se k (i + 1) ls st σ) (fun a ls st σ => mz_K p l e R s m args below meth c D cy sK sV vF β Q ade te se k a ls st σ) (28, a, b, c9, x9, y9) ls st σ) : mz_K p l e R s m args below meth c D cy sK sV vF β Q ade te se k i ls st σ := by
  obtain ⟨hx, hb, hr, hml, hown, hlk, hnm, hts, hCx, hfr, hlo⟩ := hF
  intro ad lsA H locs h1 h2 h3 hH
  rcases st with _ | ⟨u, st⟩
  · exact False.elim h
  rcases u with u | r
  case inr => exact False.elim h
  have h : if u < 0 then mz_K p l e R s m args below meth c D cy sK sV vF β Q ade te se k a ls st σ else mz_K p l e R s m args below meth c D cy sK sV vF β Q ade te se k (i + 1) ls st σ := h
  have wu : mz_w u := mz_H_hd hH
  obtain ⟨hd, hp, ht⟩ := mz_J_ok hc
  refine lv_if_lt hx hb hd ht (fun q => ?_) (fun q => ?_)
  · rw [if_pos ((mz_ltI wu mz_w0).mp q)] at h
    exact mz_K_at h rfl h1 h2 h3 (mz_H_tl hH) rfl
  · rw [if_neg (fun r => q ((mz_ltI wu mz_w0).mpr r))] at h
    exact mz_K_at h hp h1 h2 h3 (mz_H_tl hH) rfl

theorem mz_s29 (hF : mz_F p R s m args meth c D cy sK sV vF β k) (hc : mz_ch0 k i 29 a b c9 x9 y9 = true) (h : mz_st0 (fun ls st σ => mz_K p l e R s m args below meth c D cy sK sV vF β Q ade te se k (i + 1) ls st σ) (fun a ls st σ => mz_K p l e R s m args below meth c D cy sK sV vF β Q ade te se k a ls st σ) (29, a, b, c9, x9, y9) ls st σ) : mz_K p l e R s m args below meth c D cy sK sV vF β Q ade te se k i ls st σ := by
  obtain ⟨hx, hb, hr, hml, hown, hlk, hnm, hts, hCx, hfr, hlo⟩ := hF
  intro ad lsA H locs h1 h2 h3 hH
  rcases st with _ | ⟨u, st⟩
  · exact False.elim h
  rcases u with u | r
  case inr => exact False.elim h
  have h : if u < 0 then mz_K p l e R s m args below meth c D cy sK sV vF β Q ade te se k (i + 1) ls st σ else mz_K p l e R s m args below meth c D cy sK sV vF β Q ade te se k a ls st σ := h
  have wu : mz_w u := mz_H_hd hH
  obtain ⟨hd, hp, ht⟩ := mz_J_ok hc
  refine lv_if_ge hx hb hd ht (fun q => ?_) (fun q => ?_)
  · rw [if_neg (Int.not_lt.mpr ((mz_leI mz_w0 wu).mp q))] at h
    exact mz_K_at h rfl h1 h2 h3 (mz_H_tl hH) rfl
  · rw [if_pos (Int.not_le.mp (fun r => q ((mz_leI mz_w0 wu).mpr r)))] at h
    exact mz_K_at h hp h1 h2 h3 (mz_H_tl hH) rfl

theorem mz_s30 (hF : mz_F p R s m args meth c D cy sK sV vF β k) (hc : mz_ch0 k i 30 a b c9 x9 y9 = true) (h : mz_st0 (fun ls st σ => mz_K p l e R s m args below meth c D cy sK sV vF β Q ade te se k (i + 1) ls st σ) (fun a ls st σ => mz_K p l e R s m args below meth c D cy sK sV vF β Q ade te se k a ls st σ) (30, a, b, c9, x9, y9) ls st σ) : mz_K p l e R s m args below meth c D cy sK sV vF β Q ade te se k i ls st σ := by
  obtain ⟨hx, hb, hr, hml, hown, hlk, hnm, hts, hCx, hfr, hlo⟩ := hF
  intro ad lsA H locs h1 h2 h3 hH
  rcases st with _ | ⟨u, st⟩
  · exact False.elim h
  rcases u with u | r
  case inr => exact False.elim h
  have h : if u ≤ 0 then mz_K p l e R s m args below meth c D cy sK sV vF β Q ade te se k (i + 1) ls st σ else mz_K p l e R s m args below meth c D cy sK sV vF β Q ade te se k a ls st σ := h
  have wu : mz_w u := mz_H_hd hH
  obtain ⟨hd, hp, ht⟩ := mz_J_ok hc
  refine lv_if_gt hx hb hd ht (fun q => ?_) (fun q => ?_)
  · rw [if_neg (Int.not_le.mpr ((mz_ltI mz_w0 wu).mp q))] at h
    exact mz_K_at h rfl h1 h2 h3 (mz_H_tl hH) rfl
  · rw [if_pos (Int.not_lt.mp (fun r => q ((mz_ltI mz_w0 wu).mpr r)))] at h
    exact mz_K_at h hp h1 h2 h3 (mz_H_tl hH) rfl

theorem mz_s31 (hF : mz_F p R s m args meth c D cy sK sV vF β k) (hc : mz_ch0 k i 31 a b c9 x9 y9 = true) (h : mz_st0 (fun ls st σ => mz_K p l e R s m args below meth c D cy sK sV vF β Q ade te se k (i + 1) ls st σ) (fun a ls st σ => mz_K p l e R s m args below meth c D cy sK sV vF β Q ade te se k a ls st σ) (31, a, b, c9, x9, y9) ls st σ) : mz_K p l e R s m args below meth c D cy sK sV vF β Q ade te se k i ls st σ := by
  obtain ⟨hx, hb, hr, hml, hown, hlk, hnm, hts, hCx, hfr, hlo⟩ := hF
  intro ad lsA H locs h1 h2 h3 hH
  rcases st with _ | ⟨u, st⟩
  · exact False.elim h
  rcases u with u | r
  case inr => exact False.elim h
  have h : if u ≤ 0 then mz_K p l e R s m args below meth c D cy sK sV vF β Q ade te se k a ls st σ else mz_K p l e R s m args below meth c D cy sK sV vF β Q ade te se k (i + 1) ls st σ := h
  have wu : mz_w u := mz_H_hd hH
  obtain ⟨hd, hp, ht⟩ := mz_J_ok hc
  refine lv_if_le hx hb hd ht (fun q => ?_) (fun q => ?_)
  · rw [if_pos ((mz_leI wu mz_w0).mp q)] at h
    exact mz_K_at h rfl h1 h2 h3 (mz_H_tl hH) rfl
  · rw [if_neg (fun r => q ((mz_leI wu mz_w0).mpr r))] at h
    exact mz_K_at h hp h1 h2 h3 (mz_H_tl hH) rfl

theorem mz_s32 (hF : mz_F p R s m args meth c D cy sK sV vF β k) (hc : mz_ch0 k i 32 a b c9 x9 y9 = true) (h : mz_st0 (fun ls st σ => mz_K p l e R s m args below meth c D cy sK sV vF β Q ade te se k (i + 1) ls st σ) (fun a ls st σ => mz_K p l e R s m args below meth c D cy sK sV vF β Q ade te se k a ls st σ) (32, a, b, c9, x9, y9) ls st σ) : mz_K p l e R s m args below meth c D cy sK sV vF β Q ade te se k i ls st σ := by
  obtain ⟨hx, hb, hr, hml, hown, hlk, hnm, hts, hCx, hfr, hlo⟩ := hF
  intro ad lsA H locs h1 h2 h3 hH
  have h : mz_K p l e R s m args below meth c D cy sK sV vF β Q ade te se k a ls st σ := h
  obtain ⟨hd, hp, ht⟩ := mz_J_ok hc
  exact lv_goto hx hb hd ht (mz_K_at h rfl h1 h2 h3 hH rfl)

theorem mz_s33 (hF : mz_F p R s m args meth c D cy sK sV vF β k) (hc : mz_ch0 k i 33 a b c9 x9 y9 = true) (h : mz_st0 (fun ls st σ => mz_K p l e R s m args below meth c D cy sK sV vF β Q ade te se k (i + 1) ls st σ) (fun a ls st σ => mz_K p l e R s m args below meth c D cy sK sV vF β Q ade te se k a ls st σ) (33, a, b, c9, x9, y9) ls st σ) : mz_K p l e R s m args below meth c D cy sK sV vF β Q ade te se k i ls st σ := by
  obtain ⟨hx, hb, hr, hml, hown, hlk, hnm, hts, hCx, hfr, hlo⟩ := hF
  intro ad lsA H locs h1 h2 h3 hH
  rcases st with _ | ⟨v, st⟩
  · exact False.elim h
  rcases v with u | r
  case inl => exact False.elim h
  obtain ⟨hd, hp, ht⟩ := mz_J_ok hc
  rcases r with _ | r
  · have h : mz_K p l e R s m args below meth c D cy sK sV vF β Q ade te se k a ls st σ := h
    exact lv_ifnullN hx hb hd ht (mz_K_at h rfl h1 h2 h3 (mz_H_tl hH) rfl)
  · obtain ⟨t, z, o⟩ := r
    have h : t < 90 ∧ mz_K p l e R s m args below meth c D cy sK sV vF β Q ade te se k (i + 1) ls st σ := h
    have hn : mz_v ad sK sV vF (.inr (some (t, z, o))) = .ref (ad o) := by
      have := h.1
      simp only [mz_v]
      rw [if_neg (by omega), if_neg (by omega), if_neg (by omega)]
    rw [List.map_cons, hn]
    exact lv_ifnull hx hb hd (mz_K_at h.2 hp h1 h2 h3 (mz_H_tl hH) rfl)

theorem mz_s34 (hF : mz_F p R s m args meth c D cy sK sV vF β k) (hc : mz_ch0 k i 34 a b c9 x9 y9 = true) (h : mz_st0 (fun ls st σ => mz_K p l e R s m args below meth c D cy sK sV vF β Q ade te se k (i + 1) ls st σ) (fun a ls st σ => mz_K p l e R s m args below meth c D cy sK sV vF β Q ade te se k a ls st σ) (34, a, b, c9, x9, y9) ls st σ) : mz_K p l e R s m args below meth c D cy sK sV vF β Q ade te se k i ls st σ := by
  obtain ⟨hx, hb, hr, hml, hown, hlk, hnm, hts, hCx, hfr, hlo⟩ := hF
  intro ad lsA H locs h1 h2 h3 hH
  rcases st with _ | ⟨v, st⟩
  · exact False.elim h
  rcases v with u | r
  case inl => exact False.elim h
  obtain ⟨hd, hp, ht⟩ := mz_J_ok hc
  rcases r with _ | r
  · have h : mz_K p l e R s m args below meth c D cy sK sV vF β Q ade te se k (i + 1) ls st σ := h
    exact lv_ifnonnullN hx hb hd (mz_K_at h hp h1 h2 h3 (mz_H_tl hH) rfl)
  · obtain ⟨t, z, o⟩ := r
    have h : t < 90 ∧ mz_K p l e R s m args below meth c D cy sK sV vF β Q ade te se k a ls st σ := h
    have hn : mz_v ad sK sV vF (.inr (some (t, z, o))) = .ref (ad o) := by
      have := h.1
      simp only [mz_v]
      rw [if_neg (by omega), if_neg (by omega), if_neg (by omega)]
    rw [List.map_cons, hn]
    exact lv_ifnonnull hx hb hd ht (mz_K_at h.2 rfl h1 h2 h3 (mz_H_tl hH) rfl)

theorem mz_tsw_spec {v : Int} {jp : Nat → Prop} : ∀ {ts : List Nat} {lo : Int} {d : Nat}, mz_tsw v lo ts d jp → (∃ j t, v = lo + (j : Nat) ∧ ts[j]? = some t ∧ jp t) ∨ ((v < lo ∨ lo + ts.length ≤ v) ∧ jp d) := by
  intro ts
  induction ts with
  | nil => intro lo d h; exact Or.inr ⟨by simp; omega, h⟩
  | cons t ts ih =>
    intro lo d h
    unfold mz_tsw at h
    split at h
    · rename_i hv
      exact Or.inl ⟨0, t, by simp [hv], rfl, h⟩
    · rename_i hv
      rcases ih h with ⟨j, t', h1, h2, h3⟩ | ⟨h1, h2⟩
      · exact Or.inl ⟨j + 1, t', by rw [h1]; simp; omega, by simpa using h2, h3⟩
      · exact Or.inr ⟨by simp only [List.length_cons]; omega, h2⟩

theorem mz_s35 (hF : mz_F p R s m args meth c D cy sK sV vF β k) (hc : mz_ch0 k i 35 a b c9 x9 y9 = true) (h : mz_st0 (fun ls st σ => mz_K p l e R s m args below meth c D cy sK sV vF β Q ade te se k (i + 1) ls st σ) (fun a ls st σ => mz_K p l e R s m args below meth c D cy sK sV vF β Q ade te se k a ls st σ) (35, a, b, c9, x9, y9) ls st σ) : mz_K p l e R s m args below meth c D cy sK sV vF β Q ade te se k i ls st σ := by
  obtain ⟨hx, hb, hr, hml, hown, hlk, hnm, hts, hCx, hfr, hlo⟩ := hF
  intro ad lsA H locs h1 h2 h3 hH
  rcases st with _ | ⟨u, st⟩
  · exact False.elim h
  rcases u with u | r
  case inr => exact False.elim h
  have h : mz_tsw u b (mz_tb a) c9 (fun t => mz_K p l e R s m args below meth c D cy sK sV vF β Q ade te se k t ls st σ) := h
  have wu : mz_w u := mz_H_hd hH
  simp only [mz_ch0, Bool.and_eq_true, decide_eq_true_eq] at hc
  obtain ⟨hd, hp⟩ := mz_D_ok hc.1
  obtain ⟨hb1, hb2, hb3⟩ := hc.2
  have eu : (Int32.ofInt u).toInt = u := mz_t wu
  rcases mz_tsw_spec h with ⟨j, t, q1, q2, q3⟩ | ⟨q1, q2⟩
  · have hj : j < (mz_tb a).length := (List.getElem?_eq_some_iff.mp q2).1
    have e1 : (u - b).toNat = j := by omega
    refine lv_tableIn (off := (mz_pc k t : Int) - mz_pc k i) (tgt := mz_pc k t) hx hb hd (by rw [eu]; omega) (by rw [eu]; omega) ?_ (by omega) (mz_K_at q3 rfl h1 h2 h3 (mz_H_tl hH) rfl)
    rw [eu, e1]
    simp [q2]
  · exact lv_tableOut (tgt := mz_pc k c9) hx hb hd (by rw [eu]; omega) (by omega) (mz_K_at q2 rfl h1 h2 h3 (mz_H_tl hH) rfl)

theorem mz_sA {op : Nat} (hF : mz_F p R s m args meth c D cy sK sV vF β k) (hc : mz_ch0 k i op a b c9 x9 y9 = true) (h : mz_st0 (fun ls st σ => mz_K p l e R s m args below meth c D cy sK sV vF β Q ade te se k (i + 1) ls st σ) (fun a ls st σ => mz_K p l e R s m args below meth c D cy sK sV vF β Q ade te se k a ls st σ) (op, a, b, c9, x9, y9) ls st σ) : mz_K p l e R s m args below meth c D cy sK sV vF β Q ade te se k i ls st σ := by
  match op, hc, h with
  | 0, hc, h => exact mz_s0 hF hc h
  | 1, hc, h => exact mz_s1 hF hc h
  | 2, hc, h => exact mz_s2 hF hc h
  | 3, hc, h => exact mz_s3 hF hc h
  | 4, hc, h => exact mz_s4 hF hc h
  | 5, hc, h => exact mz_s5 hF hc h
  | 6, hc, h => exact mz_s6 hF hc h
  | 7, hc, h => exact mz_s7 hF hc h
  | 8, hc, h => exact mz_s8 hF hc h
  | 9, hc, h => exact mz_s9 hF hc h
  | 10, hc, h => exact mz_s10 hF hc h
  | 11, hc, h => exact mz_s11 hF hc h
  | 12, hc, h => exact mz_s12 hF hc h
  | 13, hc, h => exact mz_s13 hF hc h
  | 14, hc, h => exact mz_s14 hF hc h
  | 15, hc, h => exact mz_s15 hF hc h
  | 16, hc, h => exact mz_s16 hF hc h
  | 17, hc, h => exact mz_s17 hF hc h
  | 18, hc, h => exact mz_s18 hF hc h
  | 19, hc, h => exact mz_s19 hF hc h
  | 20, hc, h => exact mz_s20 hF hc h
  | 21, hc, h => exact mz_s21 hF hc h
  | 22, hc, h => exact mz_s22 hF hc h
  | 23, hc, h => exact mz_s23 hF hc h
  | 24, hc, h => exact mz_s24 hF hc h
  | 25, hc, h => exact mz_s25 hF hc h
  | 26, hc, h => exact mz_s26 hF hc h
  | 27, hc, h => exact mz_s27 hF hc h
  | 28, hc, h => exact mz_s28 hF hc h
  | 29, hc, h => exact mz_s29 hF hc h
  | 30, hc, h => exact mz_s30 hF hc h
  | 31, hc, h => exact mz_s31 hF hc h
  | 32, hc, h => exact mz_s32 hF hc h
  | 33, hc, h => exact mz_s33 hF hc h
  | 34, hc, h => exact mz_s34 hF hc h
  | 35, hc, h => exact mz_s35 hF hc h
  | op + 36, hc, h => exact absurd hc (by simp [mz_ch0])

end Sn3
