theorem mz_ch1_op {k i op a : Nat} {b : Int} {c x y : Nat} (h : mz_ch1 k i op a b c x y = true) : op = 36 ∨ op = 37 ∨ op = 38 ∨ op = 39 ∨ op = 40 ∨ op = 41 ∨ op = 42 ∨ op = 43 ∨ op = 44 ∨ op = 45 ∨ op = 46 ∨ op = 47 ∨ op = 48 ∨ op = 49 ∨ op = 50 ∨ op = 51 ∨ op = 52 ∨ op = 54 ∨ op = 55 ∨ op = 56 ∨ op = 57 ∨ op = 58 ∨ op = 59 ∨ op = 60 ∨ op = 61 ∨ op = 62 ∨ op = 63 ∨ op = 64 ∨ op = 65 ∨ op = 66 ∨ op = 67 ∨ op = 68 ∨ op = 69 ∨ op = 72 ∨ op = 73 ∨ op = 74 ∨ op = 75 ∨ op = 76 ∨ op = 99 := by
  unfold mz_ch1 at h
  simp only at h
  split at h <;> first | (cases h; done) | simp
theorem mz_sl_len {vs : List Value} (h : ∀ v ∈ vs, v.category = 1) : (lg_sl vs).length = vs.length := by
  induction vs with
  | nil => rfl
  | cons v vs ih =>
    have h1 : v.category = 1 := h v List.mem_cons_self
    have e : lg_sl (v :: vs) = [.val v] ++ lg_sl vs := by simp [lg_sl, h1]
    rw [e, List.length_append, ih (fun w hw => h w (List.mem_cons_of_mem _ hw))]
    simp
    omega
theorem mz_args_mem {vs : List Value} (h : ∀ v ∈ vs, v.category = 1) : ∀ {i j : Nat} {v : Value}, vs[j]? = some v → (i + j, v) ∈ lv_args i vs := by
  induction vs with
  | nil => intro i j v hj; simp at hj
  | cons w vs ih =>
    intro i j v hj
    have h1 : w.category = 1 := h w List.mem_cons_self
    unfold lv_args
    rw [if_neg (by rw [h1]; decide)]
    cases j with
    | zero =>
      simp at hj
      subst hj
      exact List.mem_cons_self
    | succ j =>
      have := ih (fun w hw => h w (List.mem_cons_of_mem _ hw)) (i := i + 1) (j := j) (v := v) (by simpa using hj)
      rw [show i + 1 + j = i + (j + 1) by omega] at this
      exact List.mem_cons_of_mem _ this
theorem mz_ent_at {k j : Nat} {as : List mz_V} {v : mz_V} (h : (mz_ent k as)[j]? = some (some v)) : as[j]? = some v := by
  unfold mz_ent at h
  by_cases hj : j < as.length
  · rw [List.getElem?_append_left (by simpa using hj)] at h
    rw [List.getElem?_map] at h
    cases ha : as[j]? with
    | none => rw [ha] at h; simp at h
    | some w => rw [ha] at h; simp at h; rw [h]
  · rw [List.getElem?_append_right (by simpa using hj)] at h
    have := List.mem_of_getElem? h
    simp at this
section Sn8
variable {l : Launch}
theorem mz_met_of {n : Nat} (hok : ∀ k, k < 300 → mz_ok k = true)
    (IH : ∀ (k : Nat), k < 300 → ∀ (i : Nat) (ls : mz_Ls) (st : List mz_V) (σ : mz_S) (r0 : Option mz_V) (σ0 : mz_S), mz_run n k i ls st σ r0 σ0 → ∀ {p : Program} {e : Env} {R : Room} {s : State} {m : MethodId} {args : Array Value} {below : List Frame} {meth : Method} {c : Code} {D : va_G} {cy : Nat → ClassId} {sK sV : Nat → Nat} {vF : Value} {β : Nat → Prop} {ade : Nat → Nat} {te se : Nat}, mz_F p R s m args meth c D cy sK sV vF β k → (R.cells = σ0.1 - te ∧ R.slots = σ0.2.1 - se) →
      mz_K p l e R s m args below meth c D cy sK sV vF β (MQ below (mz_Q D cy sK sV vF β ade te r0 σ0) args s (σ0.1 - te) (σ0.2.1 - se) β) ade te se k i ls st σ)
    {D : va_G} {cy : Nat → ClassId} {sK sV : Nat → Nat} {vF : Value} {β : Nat → Prop} {k : Nat} (hk : k < 300) {as : List mz_V} {σ σ1 : mz_S} {r1 : Option mz_V} (h : mz_run n k 0 (mz_ent k as) [] σ r1 σ1) (hS : mz_wS σ) (hw : ∀ v ∈ as, mz_wf σ v) (hn : as.length = mz_na k) (ad : Nat → Nat) : mz_Met l D cy sK sV vF β k ad as σ r1 σ1 := by
  obtain ⟨m1, m2, m3, m4, m5, m6, m7, m8, m9, m10⟩ := mz_mok_ok (hok k hk)
  unfold mz_Met
  refine Met.ofW (cc := mz_b k) (maxL := mz_L k) (ret := mz_rt k) m1 rfl ?_
  intro p e s m args below meth c s₁ B hml hv
  obtain ⟨rfl, hP, hD, hCx⟩ := hv
  have hts0 := atoms_spec (ws := mz_wsk k) B.pre
  have hF : mz_F p (headSpec (mz_wsk k) (mz_rm9 k σ σ1)).room s m (as.map (mz_v ad sK sV vF)).toArray meth c D cy sK sV vF β k :=
    ⟨B.exec, B.bytes, B.returns, hml, findClass_of_methodNamed B.named, B.notSynchronized, (name_of_methodNamed B.named B.method).1, fun w hw => hts0 w (List.mem_cons_of_mem _ hw), hCx, Nat.le_refl _, Nat.le_refl _⟩
  have hK := IH k hk 0 (mz_ent k as) [] σ r1 σ1 h (e := e) (below := below) (ade := ad) (te := σ.1) (se := σ.2.1) hF ⟨rfl, rfl⟩
  have hcat : ∀ v ∈ as.map (mz_v ad sK sV vF), v.category = 1 := fun v hv => by
    obtain ⟨w, -, rfl⟩ := List.mem_map.mp hv
    exact mz_cat hCx.2.2.2.2.2.2.1 ad sK sV w
  have hl := lv_entry (as.map (mz_v ad sK sV vF)) (n := mz_L k) (by rw [mz_sl_len hcat, List.length_map, hn]; exact m7)
  rw [lg_entry_eq]
  generalize (lg_sl (as.map (mz_v ad sK sV vF)) ++ List.replicate (mz_L k - (lg_sl (as.map (mz_v ad sK sV vF))).length) Slot.unset).toArray = lsA at hl ⊢
  have hH : mz_H s D cy sK sV vF β k ad σ (mz_ent k as) [] lsA s.heap [] := by
    refine ⟨hP, hD, va_S.rf, hS, fun v hv => (by cases hv), fun a v hv => hw v (List.mem_of_getElem? (mz_ent_at hv)), ⟨hl.1, hl.2.1, fun q hq => ?_⟩, ?_⟩
    · obtain ⟨v, e1, e2⟩ := mz_lv_mem.mp hq
      refine hl.2.2 q ?_
      have := mz_args_mem hcat (i := 0) (j := q.1) (v := q.2) (by rw [List.getElem?_map, mz_ent_at e1, e2]; rfl)
      rwa [Nat.zero_add] at this
    · unfold mz_ent
      rw [List.length_append, List.length_map, List.length_replicate, hn]
      omega
  have hw2 := hK ad lsA s.heap [] (fun _ _ => rfl) (Nat.le_refl _) (Nat.le_refl _) hH
  rw [Nat.sub_self, Nat.sub_self, m8] at hw2
  exact hw2
theorem mz_snd (hok : ∀ k, k < 300 → mz_ok k = true) : ∀ (n k : Nat), k < 300 → ∀ (i : Nat) (ls : mz_Ls) (st : List mz_V) (σ : mz_S) (r0 : Option mz_V) (σ0 : mz_S), mz_run n k i ls st σ r0 σ0 → ∀ {p : Program} {e : Env} {R : Room} {s : State} {m : MethodId} {args : Array Value} {below : List Frame} {meth : Method} {c : Code} {D : va_G} {cy : Nat → ClassId} {sK sV : Nat → Nat} {vF : Value} {β : Nat → Prop} {ade : Nat → Nat} {te se : Nat}, mz_F p R s m args meth c D cy sK sV vF β k → (R.cells = σ0.1 - te ∧ R.slots = σ0.2.1 - se) →
      mz_K p l e R s m args below meth c D cy sK sV vF β (MQ below (mz_Q D cy sK sV vF β ade te r0 σ0) args s (σ0.1 - te) (σ0.2.1 - se) β) ade te se k i ls st σ := by
  intro n
  induction n with
  | zero => intro k hk i ls st σ r0 σ0 h; exact h.elim
  | succ n IH =>
    intro k hk i ls st σ r0 σ0 h p e R s m args below meth c D cy sK sV vF β ade te se hF hR
    unfold mz_run at h
    split at h
    · exact h.elim
    · rename_i e' he
      obtain ⟨m1, m2, m3, m4, m5, m6, m7, m8, m9, m10⟩ := mz_mok_ok (hok k hk)
      have hchk := mz_all_ok m10 i e' he
      rw [Nat.zero_add] at hchk
      obtain ⟨op, a, b, c9, x9, y9⟩ := e'
      unfold mz_stp at h
      unfold mz_chk at hchk
      by_cases hop : op < 36
      · rw [if_pos hop] at h
        have h : mz_st0 (fun ls st σ => mz_run n k (i + 1) ls st σ r0 σ0) (fun a ls st σ => mz_run n k a ls st σ r0 σ0) (op, a, b, c9, x9, y9) ls st σ := h
        rw [if_pos hop] at hchk
        refine mz_sA (op := op) hF hchk ?_
        rcases mz_one0 (call := fun _ _ _ _ => False) (rt := fun _ _ => False) h with ⟨ls, st, σ, h1, hg, h2⟩ | ⟨a, ls, st, σ, h1, hg, h2⟩ | ⟨k', as, ls, st, σ, h1, hg, h2⟩ | ⟨r, σ, h1, hg, h2⟩
        · exact h2 _ _ (fun _ _ _ _ => False) (fun _ _ => False) (IH k hk _ _ _ _ _ _ h1 hF hR)
        · exact h2 _ _ (fun _ _ _ _ => False) (fun _ _ => False) (IH k hk _ _ _ _ _ _ h1 hF hR)
        · exact h1.elim
        · exact h1.elim
      · rw [if_neg hop] at h
        have h : mz_st1 (fun ls st σ => mz_run n k (i + 1) ls st σ r0 σ0) (fun k' as σ K => ∃ r1 σ1, mz_run n k' 0 (mz_ent k' as) [] σ r1 σ1 ∧ K r1 σ1) (fun r σ => r = r0 ∧ σ = σ0) (op, a, b, c9, x9, y9) ls st σ := h
        rw [if_neg hop] at hchk
        have hka : ∀ k', mz_call k k' c9 = true → k' < 300 := fun k' h => by
          simp only [mz_call, Bool.and_eq_true, decide_eq_true_eq] at h
          rw [← mz_cdL_len]
          exact h.2
        have h' : mz_st1 (fun ls st σ => mz_gr σ σ0 ∧ mz_K p l e R s m args below meth c D cy sK sV vF β (MQ below (mz_Q D cy sK sV vF β ade te r0 σ0) args s (σ0.1 - te) (σ0.2.1 - se) β) ade te se k (i + 1) ls st σ) (fun k9 as σ9 K => ∃ (r1 : Option mz_V) (σ1 : mz_S), mz_gr σ9 σ1 ∧ (mz_wS σ9 → (∀ v ∈ as, mz_wf σ9 v) → as.length = mz_na k9 → ∀ ad, mz_Met l D cy sK sV vF β k9 ad as σ9 r1 σ1) ∧ K r1 σ1) (fun r σ => r = r0 ∧ σ = σ0) (op, a, b, c9, x9, y9) ls st σ := by
          rcases mz_one1 (jp := fun _ _ _ _ => False) h with ⟨ls, st, σ, h1, hg, h2⟩ | ⟨a, ls, st, σ, h1, hg, h2⟩ | ⟨k', as, ls, st, σ, ⟨r1, σ1, h1, h3⟩, hg, h2⟩ | ⟨r, σ, h1, hg, h2⟩
          · exact h2 _ (fun _ _ _ _ => False) _ _ ⟨mz_run_gr h1, IH k hk _ _ _ _ _ _ h1 hF hR⟩
          · exact h1.elim
          · refine h2 _ (fun _ _ _ _ => False) _ _ ⟨r1, σ1, mz_run_gr h1, fun hS hw hn ad => ?_, mz_run_gr h3, IH k hk _ _ _ _ _ _ h3 hF hR⟩
            by_cases hk' : k' < 300
            · exact mz_met_of hok IH hk' h1 hS hw hn ad
            · exfalso
              have hd : mz_cd k' = [] := by
                unfold mz_cd
                rw [List.getD_eq_getElem?_getD, List.getElem?_eq_none (by rw [mz_cdL_len]; omega)]
                rfl
              cases n with
              | zero => exact h1
              | succ n =>
                unfold mz_run at h1
                rw [hd] at h1
                simp at h1
          · exact h2 _ (fun _ _ _ _ => False) _ _ h1
        have hops := mz_ch1_op hchk
        rcases hops with rfl | rfl | rfl | rfl | rfl | rfl | rfl | rfl | rfl | rfl | rfl | rfl | rfl | rfl | rfl | rfl | rfl | rfl | rfl | rfl | rfl | rfl | rfl | rfl | rfl | rfl | rfl | rfl | rfl | rfl | rfl | rfl | rfl | rfl | rfl | rfl | rfl | rfl | rfl
        · exact mz_s36 hF hchk h'
        · exact mz_s37 hF hchk h'
        · exact mz_s38 hF hchk h'
        · exact mz_s39 hF hchk h'
        · exact mz_s40 hF hchk h'
        · exact mz_s41 hF hchk h'
        · exact mz_s42 hF hchk h'
        · exact mz_s43 hF hchk h'
        · exact mz_s44 hF hchk h'
        · exact mz_s45 hF hchk h'
        · exact mz_s46 hF hchk h'
        · exact mz_s47 hF hchk h'
        · exact mz_s48 hF hchk h'
        · exact mz_s49 hR hok hF hchk h'
        · exact mz_s50 hR hok hF hchk h'
        · exact mz_s51 hR hok hF hchk h'
        · exact mz_s52 hR hok hF hchk h'
        · exact mz_s54 hR hok hF hchk h'
        · exact mz_sR (op := 55) (Or.inl rfl) hF hchk h'
        · exact mz_sR (op := 56) (Or.inr (Or.inl rfl)) hF hchk h'
        · exact mz_sR (op := 57) (Or.inr (Or.inr rfl)) hF hchk h'
        · exact mz_s58 hR hF hchk h'
        · exact mz_s59 hR hF hchk h'
        · exact mz_s60 hR hF hchk h'
        · exact mz_s61 hR hF hchk h'
        · exact mz_s62 hR hF hchk h'
        · exact mz_s63 hR hF hchk h'
        · exact mz_s64 hR hF hchk h'
        · exact mz_s65 hF hchk h'
        · exact mz_s66 hF hchk h'
        · exact mz_s67 hF hchk h'
        · exact mz_s68 hF hchk h'
        · exact mz_s69 hF hchk h'
        · exact mz_s72 hF hchk h'
        · exact mz_s73 hF hchk h'
        · exact mz_s74 hF hchk h'
        · exact mz_s75 hR hF hchk h'
        · exact mz_s76 hR hF hchk h'
        · exact False.elim h'

/-- a method of the small machine by its contract -/
theorem mz_contract (hok : ∀ k, k < 300 → mz_ok k = true) {D : va_G} {cy : Nat → ClassId} {sK sV : Nat → Nat} {vF : Value} {β : Nat → Prop} {k : Nat} (hk : k < 300) {as : List mz_V} {σ σ1 : mz_S} {r1 : Option mz_V} (h : mz_cl k as σ r1 σ1) (hS : mz_wS σ) (hw : ∀ v ∈ as, mz_wf σ v) (hn : as.length = mz_na k) (ad : Nat → Nat) : mz_Met l D cy sK sV vF β k ad as σ r1 σ1 := by
  obtain ⟨n, h⟩ := h
  exact mz_met_of hok (mz_snd hok n) hk h hS hw hn ad
end Sn8
