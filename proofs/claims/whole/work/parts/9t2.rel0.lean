/-! New objects are alike. -/
theorem tC_of_ct {m : mz_M} {w : Nat} (h : ctN m w) : tC w m = m := by
  obtain ⟨⟨x0, x1, x2⟩, h2, h3, h4⟩ := h
  funext a j
  unfold tC
  split
  · rename_i q; subst q
    split
    · rename_i q; subst q; exact x0.symm
    · split
      · rename_i q; subst q; exact x1.symm
      · split
        · rename_i q; subst q; exact x2.symm
        · rfl
  · split
    · rename_i q; obtain ⟨rfl, q⟩ := q; exact (h2 j q).1.symm
    · split
      · rename_i q; obtain ⟨rfl, q⟩ := q; exact (h2 j q).2.1.symm
      · split
        · rename_i q; obtain ⟨rfl, q⟩ := q; exact (h2 j q).2.2.symm
        · split
          · rename_i q; obtain ⟨rfl, q⟩ := q; exact (h3 j q).1.symm
          · split
            · rename_i q; obtain ⟨rfl, q⟩ := q; exact (h3 j q).2.symm
            · split
              · rename_i q; obtain ⟨q, rfl⟩ := q
                rcases q with rfl | rfl | rfl | rfl
                · exact (h4 0 (by omega)).1.symm
                · exact (h4 1 (by omega)).1.symm
                · exact (h4 2 (by omega)).1.symm
                · exact (h4 3 (by omega)).1.symm
              · split
                · rename_i q; obtain ⟨q, q2⟩ := q
                  rcases q with rfl | rfl | rfl | rfl
                  · exact ((h4 0 (by omega)).2 j q2).symm
                  · exact ((h4 1 (by omega)).2 j q2).symm
                  · exact ((h4 2 (by omega)).2 j q2).symm
                  · exact ((h4 3 (by omega)).2 j q2).symm
                · rfl
theorem ctN_eq {m : mz_M} {v w b j : Nat} (h : ctN m v) (h' : ctN m w) (hb : tIn b j) : m (v + b) j = m (w + b) j := by
  obtain ⟨⟨x0, x1, x2⟩, h2, h3, h4⟩ := h
  obtain ⟨⟨y0, y1, y2⟩, g2, g3, g4⟩ := h'
  rcases hb with ⟨rfl, q⟩ | ⟨rfl, q⟩ | ⟨rfl, q⟩ | ⟨rfl, q⟩ | ⟨rfl, q⟩ | ⟨rfl, q⟩ | ⟨q, rfl⟩ | ⟨q, q2⟩
  · rcases (show j = 0 ∨ j = 1 ∨ j = 2 by omega) with rfl | rfl | rfl
    · exact x0.trans y0.symm
    · exact x1.trans y1.symm
    · exact x2.trans y2.symm
  · exact (h2 j q).1.trans (g2 j q).1.symm
  · exact (h2 j q).2.1.trans (g2 j q).2.1.symm
  · exact (h2 j q).2.2.trans (g2 j q).2.2.symm
  · exact (h3 j q).1.trans (g3 j q).1.symm
  · exact (h3 j q).2.trans (g3 j q).2.symm
  · rcases q with rfl | rfl | rfl | rfl
    · exact (h4 0 (by omega)).1.trans (g4 0 (by omega)).1.symm
    · exact (h4 1 (by omega)).1.trans (g4 1 (by omega)).1.symm
    · exact (h4 2 (by omega)).1.trans (g4 2 (by omega)).1.symm
    · exact (h4 3 (by omega)).1.trans (g4 3 (by omega)).1.symm
  · rcases q with rfl | rfl | rfl | rfl
    · exact ((h4 0 (by omega)).2 j q2).trans ((g4 0 (by omega)).2 j q2).symm
    · exact ((h4 1 (by omega)).2 j q2).trans ((g4 1 (by omega)).2 j q2).symm
    · exact ((h4 2 (by omega)).2 j q2).trans ((g4 2 (by omega)).2 j q2).symm
    · exact ((h4 3 (by omega)).2 j q2).trans ((g4 3 (by omega)).2 j q2).symm
theorem up_eq {m : mz_M} {o k : Nat} {v : Int} (h : m o k = v) : mz_up m o k v = m := by
  subst h
  exact up_id m o k
theorem bgS_of {m : mz_M} {u v : Nat} (h : ctN m v) (hw : cWo m u) : bgS u v m = m := by
  have e1 : tCp v (u + 1) m = m := by
    funext a j
    unfold tCp
    split
    · rename_i q
      have := ctN_eq h hw.1 q.2
      rw [this]
      congr 1
      omega
    · rfl
  have e2 : clS u m 16 = m := by
    funext a i
    unfold clS
    split
    · rename_i q
      have := hw.2.2 (a - (u + 24)) (by omega) i
      rw [show u + 24 + (a - (u + 24)) = a by omega, if_neg (by omega)] at this
      exact this.symm
    · rfl
  unfold bgS
  rw [e1, e2, up_eq hw.2.1.2.2, up_eq hw.2.1.1, up_eq]
  rw [hw.2.1.2.1, hw.1.1.2.2]
theorem pop6 : ∀ a, a < 64 → pop a 16 ≤ 6 := by decide +kernel
theorem Rel_0 {m : mz_M} (h1 : ∀ j, m 1 j = 0) (c2 : ctN m 2) (w0 : cWo m 18) (w1 : cWo m 59) (w2 : cWo m 99) (h139 : ∀ j, m 139 j = 0) (h145 : ∀ j, m 145 j = 0) (h146 : ∀ j, m 146 j = 0) (h152 : ∀ j, m 152 j = 0) (h153 : ∀ j, m 153 j = 0) (h154 : m 154 = fnV (fun j => if j < 2430 then bgV 1 j else 0)) (h157 : ∀ j, m 157 j = 0) (h165 : ∀ j, m 165 j = 0) : Rel m := by
  have eb := bgS_of c2 w0
  have cn : ∀ u, cWo m u → cnO m u := fun u w c hc => by rw [w.2.2 c hc 0, if_pos rfl]
  have hq : tQ m 2 (fun j => if j < 2430 then bgV 1 j else 0) := by
    have t := tC_tQ (c := m) (w := 2) (R := fun _ => 0) (v := 1) (by omega)
    rw [tC_of_ct c2, up_eq c2.1.1] at t
    exact t
  have hw := RW_begin (m := m) (u := 18) (v := 2) (cn 18 w0) hq (fun j hj => by
    rw [(c2.2.2.1 j hj).2]
    exact fwT_congr (fun i hi => ((c2.2.2.1 i hi).1).symm) j hj)
  rw [eb, ← h154] at hw
  have hs := spR_begin (m := m) (u := 18) (v := 2) (fun p hp => by rw [(c2.2.1 p hp).2.1]; omega)
  rw [eb] at hs
  refine ⟨⟨0, hw⟩, ⟨⟨⟨(h139 0).trans (h157 0).symm, Or.inl (h139 0)⟩, cn 59 w1, fun q => absurd (h139 0) q⟩, ⟨⟨(h139 1).trans (h157 1).symm, Or.inl (h139 1)⟩, cn 99 w2, fun q => absurd (h139 1) q⟩⟩, ⟨0, h1 2, by omega, h153 6, fun j hj => absurd hj (Nat.not_lt_zero j), (h1 6).trans (h153 11).symm, by rw [h153 8]; omega⟩, ⟨⟨fun k hk => ?_, fun k hk => ?_, fun k hk => ?_, fun k hk => ?_⟩, hs, fun x _ hu => absurd (h139 x) hu⟩⟩
  · rw [h145 k]; omega
  · rw [h146 k]
    have := pop6 (k / 14) (by omega)
    omega
  · rw [h152 k]; omega
  · rw [h165 k]; omega
