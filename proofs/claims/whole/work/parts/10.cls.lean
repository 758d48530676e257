/-! Facts of the ten classes, for each by its number. -/
theorem mz_cl_at : ∀ c, c < 10 → vwCl[c]? = some (mz_cn c, mz_T c, mz_nf c) := by
  intro c hc
  match c, hc with
  | 0, _ => rfl
  | 1, _ => rfl
  | 2, _ => rfl
  | 3, _ => rfl
  | 4, _ => rfl
  | 5, _ => rfl
  | 6, _ => rfl
  | 7, _ => rfl
  | 8, _ => rfl
  | 9, _ => rfl
  | c + 10, hc => exact absurd hc (by omega)
def mz_lp : List (List Nat) := [[2012, 2014, 2016, 2018, 2020, 2022, 2024, 2026, 2028, 2030, 2032], [1198, 1200, 1202, 1204, 1206, 1208, 1210], [2124, 2126, 2128, 2130, 2132, 2134], [2083, 2085, 2087, 2089, 2091, 2093, 2095, 2097, 2099, 2101, 2103, 2105], [1121, 1123, 1125, 1127, 1129, 1131, 1133, 1135, 1137], [1151, 1153, 1155, 1157, 1159, 1161, 1163, 1165], [2049, 2051, 2053, 2055, 2057], [1058, 1060], [2143, 2145, 2147, 2149, 2151, 2153], [6141, 6143, 6145, 6147, 6149, 6151, 6153, 6155, 6157, 6159, 6161, 6163, 6165, 6167, 6169, 6171, 6173, 6175, 6177, 6179, 6181, 6183, 6185, 6187, 6189, 6191, 6193]]
def mz_ip : List (Nat × Nat) := [(1213, 1010), (1179, 1009), (2110, 1012), (2062, 1011), (1040, 1003), (1034, 1002), (1169, 1008), (1047, 1004), (1026, 1001), (6101, 1013)]
theorem mz_hinB : ((List.range 10).all fun c => (List.range (mz_nf c)).all fun k => mz_W ((mz_lp.getD c []).getD k 0) (u_lay (mz_cn c) (mz_T c) k)) = true := by decide +kernel
theorem mz_hin {c : Nat} (hc : c < 10) : ∀ w ∈ u_ws (mz_cn c) (mz_T c) (mz_nf c), w ∈ mz_gw := by
  intro w hw
  obtain ⟨k, hk, rfl⟩ := List.mem_map.mp hw
  exact mz_W_ok (List.all_eq_true.mp (List.all_eq_true.mp mz_hinB c (List.mem_range.mpr hc)) k hk)
theorem mz_insB : ((List.range 10).all fun c => mz_W (mz_ip.getD c (0, 0)).1 (.instantiable (mz_cn c) (mz_nf c)) && mz_W (mz_ip.getD c (0, 0)).2 (.initialized (mz_cn c))) = true := by decide +kernel
theorem mz_ins {c : Nat} (hc : c < 10) : Cond.instantiable (mz_cn c) (mz_nf c) ∈ mz_gw ∧ Cond.initialized (mz_cn c) ∈ mz_gw := by
  have := List.all_eq_true.mp mz_insB c (List.mem_range.mpr hc)
  rw [Bool.and_eq_true] at this
  exact ⟨mz_W_ok this.1, mz_W_ok this.2⟩
theorem mz_hty {c : Nat} (hc : c < 10) : ∀ k, k < mz_nf c → parseFieldDescriptor (mz_T c k).2.2.1 = some (mz_ty c k) := by
  match c, hc with
  | 0, _ => exact tyX0_ok
  | 1, _ => exact tyX1_ok
  | 2, _ => exact tyX2_ok
  | 3, _ => exact tyX3_ok
  | 4, _ => exact tyX4_ok
  | 5, _ => exact tyX5_ok
  | 6, _ => exact tyX6_ok
  | 7, _ => exact tyX7_ok
  | 8, _ => exact tyX8_ok
  | 9, _ => exact tyX9_ok
  | c + 10, hc => exact absurd hc (by omega)
theorem mz_hnm {c : Nat} (hc : c < 10) : ∀ a, a < mz_nf c → ∀ b, b < mz_nf c → a ≠ b → (mz_T c a).2.1 ≠ (mz_T c b).2.1 := by
  match c, hc with
  | 0, _ => exact nmX0
  | 1, _ => exact nmX1
  | 2, _ => exact nmX2
  | 3, _ => exact nmX3
  | 4, _ => exact nmX4
  | 5, _ => exact nmX5
  | 6, _ => exact nmX6
  | 7, _ => exact nmX7
  | 8, _ => exact nmX8
  | 9, _ => exact nmX9
  | c + 10, hc => exact absurd hc (by omega)
def mz_isRT (t : FieldType) : Bool := match t with | .object _ => true | .array _ => true | _ => false
theorem mz_tyB : ((List.range 10).all fun c => (List.range (mz_nf c)).all fun k => if (mz_fr c k).isSome then mz_isRT (mz_ty c k) else decide (mz_ty c k = .int)) = true := by decide +kernel
theorem mz_tyR {c k : Nat} (hc : c < 10) (hk : k < mz_nf c) (h : (mz_fr c k).isSome = true) : (∃ n, mz_ty c k = .object n) ∨ ∃ t, mz_ty c k = .array t := by
  have := List.all_eq_true.mp (List.all_eq_true.mp mz_tyB c (List.mem_range.mpr hc)) k (List.mem_range.mpr hk)
  rw [if_pos h] at this
  unfold mz_isRT at this
  split at this
  · exact Or.inl ⟨_, by assumption⟩
  · exact Or.inr ⟨_, by assumption⟩
  · simp at this
theorem mz_tyI {c k : Nat} (hc : c < 10) (hk : k < mz_nf c) (h : mz_fr c k = none) : mz_ty c k = .int := by
  have := List.all_eq_true.mp (List.all_eq_true.mp mz_tyB c (List.mem_range.mpr hc)) k (List.mem_range.mpr hk)
  rw [h] at this
  simpa using this
theorem mz_kdB : (mz_kdL.all fun q => decide (q.1 < 10 ∨ 100 ≤ q.1 ∧ q.1 ≤ 105) && decide (q.2 < 20000)) = true := by decide +kernel
theorem mz_kd_len : mz_kdL.length = 167 := by decide +kernel
theorem mz_kd_ok {o : Nat} (h : o < 167) : ((mz_kd o).1 < 10 ∨ 100 ≤ (mz_kd o).1 ∧ (mz_kd o).1 ≤ 105) ∧ (mz_kd o).2 < 20000 := by
  have h1 : mz_kd o ∈ mz_kdL := by
    unfold mz_kd
    rw [List.getD_eq_getElem?_getD, List.getElem?_eq_getElem (by rw [mz_kd_len]; exact h)]
    exact List.getElem_mem _
  have := List.all_eq_true.mp mz_kdB _ h1
  rw [Bool.and_eq_true, decide_eq_true_eq, decide_eq_true_eq] at this
  exact this
section Cls
variable {σ : mz_S} {ad sK sV : Nat → Nat} {vF : Value} {cy : Nat → ClassId}
theorem mz_wf_o {t n o : Nat} (h : mz_wf σ (.inr (some (t, n, o)))) (ht : t < 90 ∨ 93 ≤ t) : o < σ.1 ∧ mz_kd o = (t, n) := by
  simp only [mz_wf] at h
  rwa [if_neg (by omega), if_neg (by omega), if_neg (by omega)] at h
theorem mz_v_o {t n o : Nat} (ht : t < 90 ∨ 93 ≤ t) : mz_v ad sK sV vF (.inr (some (t, n, o))) = .ref (ad o) := by
  simp only [mz_v]
  rw [if_neg (by omega), if_neg (by omega), if_neg (by omega)]
theorem mz_of_wf {o : Nat} (h : o < σ.1) (hS : σ.1 ≤ 167) {t n : Nat} (hk : mz_kd o = (t, n)) : mz_wf σ (.inr (some (t, n, o))) := by
  have := (mz_kd_ok (Nat.lt_of_lt_of_le h hS)).1
  rw [hk] at this
  simp only at this
  simp only [mz_wf]
  rw [if_neg (by omega), if_neg (by omega), if_neg (by omega)]
  exact ⟨h, hk⟩
theorem mz_en_o {o t n : Nat} (hk : mz_kd o = (t, n)) (ht : t < 10) : mz_en ad cy σ o = .inr (t, (List.range (mz_nf t)).map (mz_fv ad σ t o)) := by
  unfold mz_en
  rw [hk]
  simp [ht]
theorem mz_en_a {o t n : Nat} (hk : mz_kd o = (t, n)) (ht : 100 ≤ t ∧ t < 103) : mz_en ad cy σ o = .inl (cy (t - 100), n, .inl (fun k => Int32.ofInt (σ.2.2.2 o k))) := by
  unfold mz_en
  rw [hk]
  simp only
  rw [if_neg (by omega), if_pos (by omega)]
theorem mz_en_r {o t n : Nat} (hk : mz_kd o = (t, n)) (ht : 103 ≤ t) : mz_en ad cy σ o = .inl (cy (t - 100), n, .inr (.inr (.inr (.inr (mz_rw ad σ o))))) := by
  unfold mz_en
  rw [hk]
  simp only
  rw [if_neg (by omega), if_neg (by omega)]
/-- a cell of which nothing has changed -/
theorem mz_en_eq {σ' : mz_S} {ad' : Nat → Nat} {o : Nat} (hm : ∀ k, σ'.2.2.2 o k = σ.2.2.2 o k) (hi : ∀ k, σ'.2.2.1 o k = σ.2.2.1 o k) (ha : ∀ q, ad' q = ad q) : mz_en ad' cy σ' o = mz_en ad cy σ o := by
  have e : ad' = ad := funext ha
  subst e
  have e1 : mz_fv ad' σ' (mz_kd o).1 o = mz_fv ad' σ (mz_kd o).1 o := by
    funext k
    unfold mz_fv
    rw [hm, hi]
  have e2 : mz_rw ad' σ' o = mz_rw ad' σ o := by
    funext k
    unfold mz_rw
    rw [hi]
  unfold mz_en
  rw [e1, e2]
  simp only [hm]
end Cls
