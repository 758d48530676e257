/-! The constructors. -/
theorem tu {a b : Nat} {c d : Nat} {I J : Nat → Nat → Bool} {m n : mz_M} (h1 : a = b) (h2 : c = d) (h3 : I = J) (h4 : m = n) : ((a, c, I, m) : mz_S) = (b, d, J, n) := by subst h1; subst h2; subst h3; subst h4; rfl
theorem iu_at {I : Nat → Nat → Bool} {o k a j : Nat} : mz_iu I o k a j = if a = o ∧ j = k then true else I a j := rfl
theorem if_at {I : Nat → Nat → Bool} {o a j : Nat} : mz_if I o a j = if a = o then false else I a j := rfl
theorem zr_at {m : mz_M} {o a j : Nat} : mz_zr m o a j = if a = o then 0 else m a j := rfl
theorem iu_o {I : Nat → Nat → Bool} {o k a j : Nat} (h : a ≠ o) : mz_iu I o k a j = I a j := if_neg (fun q => h q.1)
theorem if_o {I : Nat → Nat → Bool} {o a j : Nat} (h : a ≠ o) : mz_if I o a j = I a j := if_neg h
theorem zr_o {m : mz_M} {o a j : Nat} (h : a ≠ o) : mz_zr m o a j = m a j := if_neg h
theorem tCl_o {w a j : Nat} {m : mz_M} (h : a < w) : tC w m a j = m a j := by
  unfold tC
  rw [if_neg (by omega), if_neg (by omega), if_neg (by omega), if_neg (by omega), if_neg (by omega), if_neg (by omega), if_neg (by omega), if_neg (by omega)]
/-- a town that is cleared -/
def ctN (m : mz_M) (w : Nat) : Prop := (m w 0 = 1 ∧ m w 1 = 0 ∧ m w 2 = -1) ∧ (∀ j, j < 10 → m (w + 1) j = 0 ∧ m (w + 2) j = 2 ∧ m (w + 3) j = 0) ∧ (∀ j, j < 100 → m (w + 4) j = 1000000 ∧ m (w + 5) j = fwT (fun _ => 1000000) j) ∧ ∀ z, z < 4 → m (w + 7 + 2 * z) 1 = 120 ∧ ∀ h, h < 24 → m (w + 8 + 2 * z) h = 0
theorem tC_ct (m : mz_M) (w : Nat) : ctN (tC w m) w := by
  refine ⟨⟨?_, ?_, ?_⟩, fun j hj => ⟨?_, ?_, ?_⟩, fun j hj => ⟨?_, ?_⟩, fun z hz => ⟨?_, fun h hh => ?_⟩⟩
  · unfold tC; rw [if_pos rfl, if_pos rfl]
  · unfold tC; rw [if_pos rfl, if_neg (by omega), if_pos rfl]
  · unfold tC; rw [if_pos rfl, if_neg (by omega), if_neg (by omega), if_pos rfl]
  · unfold tC; rw [if_neg (by omega), if_pos ⟨rfl, hj⟩]
  · unfold tC; rw [if_neg (by omega), if_neg (by omega), if_pos ⟨rfl, hj⟩]
  · unfold tC; rw [if_neg (by omega), if_neg (by omega), if_neg (by omega), if_pos ⟨rfl, hj⟩]
  · unfold tC; rw [if_neg (by omega), if_neg (by omega), if_neg (by omega), if_neg (by omega), if_pos ⟨rfl, hj⟩]
  · unfold tC; rw [if_neg (by omega), if_neg (by omega), if_neg (by omega), if_neg (by omega), if_neg (by omega), if_pos ⟨rfl, hj⟩]
  · unfold tC; rw [if_neg (by omega), if_neg (by omega), if_neg (by omega), if_neg (by omega), if_neg (by omega), if_neg (by omega), if_pos ⟨by omega, rfl⟩]
  · unfold tC; rw [if_neg (by omega), if_neg (by omega), if_neg (by omega), if_neg (by omega), if_neg (by omega), if_neg (by omega), if_neg (by omega), if_pos ⟨by omega, hh⟩]
theorem ctN_congr {m m' : mz_M} {w : Nat} (e : ∀ a, w ≤ a → a < w + 15 → m' a = m a) (h : ctN m w) : ctN m' w := by
  obtain ⟨h1, h2, h3, h4⟩ := h
  unfold ctN
  rw [e w (by omega) (by omega), e (w + 1) (by omega) (by omega), e (w + 2) (by omega) (by omega), e (w + 3) (by omega) (by omega), e (w + 4) (by omega) (by omega), e (w + 5) (by omega) (by omega)]
  exact ⟨h1, h2, h3, fun z hz => by rw [e _ (by omega) (by omega), e _ (by omega) (by omega)]; exact h4 z hz⟩
/-- which references of a town stand -/
def iTo (I : Nat → Nat → Bool) (w : Nat) : Prop := (∀ k, 3 ≤ k → k ≤ 8 → I w k = true) ∧ (∀ k, k < 4 → I (w + 6) k = true) ∧ ∀ z, z < 4 → I (w + 7 + 2 * z) 0 = true
theorem iTo_congr {I J : Nat → Nat → Bool} {w : Nat} (e : ∀ a k, w ≤ a → a < w + 15 → J a k = I a k) (h : iTo I w) : iTo J w :=
  ⟨fun k h1 h2 => by rw [e _ _ (by omega) (by omega)]; exact h.1 k h1 h2, fun k hk => by rw [e _ _ (by omega) (by omega)]; exact h.2.1 k hk, fun z hz => by rw [e _ _ (by omega) (by omega)]; exact h.2.2 z hz⟩
theorem kdv : mz_kd 0 = (8, 0) ∧ mz_kd 1 = (5, 0) ∧ mz_kd 2 = (4, 0) ∧ mz_kd 3 = (100, 10) ∧ mz_kd 4 = (100, 10) ∧ mz_kd 5 = (100, 10) ∧ mz_kd 6 = (100, 100) ∧ mz_kd 7 = (100, 100) ∧ mz_kd 8 = (103, 4) ∧ mz_kd 9 = (7, 0) ∧ mz_kd 10 = (100, 24) ∧ mz_kd 11 = (7, 0) ∧ mz_kd 12 = (100, 24) ∧ mz_kd 13 = (7, 0) ∧ mz_kd 14 = (100, 24) ∧ mz_kd 15 = (7, 0) ∧ mz_kd 16 = (100, 24) ∧ mz_kd 17 = (100, 600) ∧ mz_kd 18 = (6, 0) ∧ mz_kd 19 = (4, 0) ∧ mz_kd 20 = (100, 10) ∧ mz_kd 21 = (100, 10) ∧ mz_kd 22 = (100, 10) ∧ mz_kd 23 = (100, 100) ∧ mz_kd 24 = (100, 100) ∧ mz_kd 25 = (103, 4) ∧ mz_kd 26 = (7, 0) ∧ mz_kd 27 = (100, 24) ∧ mz_kd 28 = (7, 0) ∧ mz_kd 29 = (100, 24) ∧ mz_kd 30 = (7, 0) ∧ mz_kd 31 = (100, 24) ∧ mz_kd 32 = (7, 0) ∧ mz_kd 33 = (100, 24) ∧ mz_kd 34 = (104, 16) ∧ mz_kd 35 = (1, 0) ∧ mz_kd 36 = (100, 400) ∧ mz_kd 37 = (100, 400) ∧ mz_kd 38 = (100, 400) ∧ mz_kd 39 = (100, 400) ∧ mz_kd 40 = (100, 16) ∧ mz_kd 41 = (100, 10) ∧ mz_kd 42 = (0, 0) ∧ mz_kd 43 = (0, 0) ∧ mz_kd 44 = (0, 0) ∧ mz_kd 45 = (0, 0) ∧ mz_kd 46 = (0, 0) ∧ mz_kd 47 = (0, 0) ∧ mz_kd 48 = (0, 0) ∧ mz_kd 49 = (0, 0) ∧ mz_kd 50 = (0, 0) ∧ mz_kd 51 = (0, 0) ∧ mz_kd 52 = (0, 0) ∧ mz_kd 53 = (0, 0) ∧ mz_kd 54 = (0, 0) ∧ mz_kd 55 = (0, 0) ∧ mz_kd 56 = (0, 0) ∧ mz_kd 57 = (0, 0) ∧ mz_kd 58 = (105, 2) ∧ mz_kd 59 = (6, 0) ∧ mz_kd 60 = (4, 0) ∧ mz_kd 61 = (100, 10) ∧ mz_kd 62 = (100, 10) ∧ mz_kd 63 = (100, 10) ∧ mz_kd 64 = (100, 100) ∧ mz_kd 65 = (100, 100) ∧ mz_kd 66 = (103, 4) ∧ mz_kd 67 = (7, 0) ∧ mz_kd 68 = (100, 24) ∧ mz_kd 69 = (7, 0) ∧ mz_kd 70 = (100, 24) ∧ mz_kd 71 = (7, 0) ∧ mz_kd 72 = (100, 24) ∧ mz_kd 73 = (7, 0) ∧ mz_kd 74 = (100, 24) ∧ mz_kd 75 = (104, 16) ∧ mz_kd 76 = (1, 0) ∧ mz_kd 77 = (100, 400) ∧ mz_kd 78 = (100, 400) ∧ mz_kd 79 = (100, 400) ∧ mz_kd 80 = (100, 400) ∧ mz_kd 81 = (100, 16) ∧ mz_kd 82 = (100, 10) ∧ mz_kd 83 = (0, 0) ∧ mz_kd 84 = (0, 0) ∧ mz_kd 85 = (0, 0) ∧ mz_kd 86 = (0, 0) ∧ mz_kd 87 = (0, 0) ∧ mz_kd 88 = (0, 0) ∧ mz_kd 89 = (0, 0) ∧ mz_kd 90 = (0, 0) ∧ mz_kd 91 = (0, 0) ∧ mz_kd 92 = (0, 0) ∧ mz_kd 93 = (0, 0) ∧ mz_kd 94 = (0, 0) ∧ mz_kd 95 = (0, 0) ∧ mz_kd 96 = (0, 0) ∧ mz_kd 97 = (0, 0) ∧ mz_kd 98 = (0, 0) ∧ mz_kd 99 = (6, 0) ∧ mz_kd 100 = (4, 0) ∧ mz_kd 101 = (100, 10) ∧ mz_kd 102 = (100, 10) ∧ mz_kd 103 = (100, 10) ∧ mz_kd 104 = (100, 100) ∧ mz_kd 105 = (100, 100) ∧ mz_kd 106 = (103, 4) ∧ mz_kd 107 = (7, 0) ∧ mz_kd 108 = (100, 24) ∧ mz_kd 109 = (7, 0) ∧ mz_kd 110 = (100, 24) ∧ mz_kd 111 = (7, 0) ∧ mz_kd 112 = (100, 24) ∧ mz_kd 113 = (7, 0) ∧ mz_kd 114 = (100, 24) ∧ mz_kd 115 = (104, 16) ∧ mz_kd 116 = (1, 0) ∧ mz_kd 117 = (100, 400) ∧ mz_kd 118 = (100, 400) ∧ mz_kd 119 = (100, 400) ∧ mz_kd 120 = (100, 400) ∧ mz_kd 121 = (100, 16) ∧ mz_kd 122 = (100, 10) ∧ mz_kd 123 = (0, 0) ∧ mz_kd 124 = (0, 0) ∧ mz_kd 125 = (0, 0) ∧ mz_kd 126 = (0, 0) ∧ mz_kd 127 = (0, 0) ∧ mz_kd 128 = (0, 0) ∧ mz_kd 129 = (0, 0) ∧ mz_kd 130 = (0, 0) ∧ mz_kd 131 = (0, 0) ∧ mz_kd 132 = (0, 0) ∧ mz_kd 133 = (0, 0) ∧ mz_kd 134 = (0, 0) ∧ mz_kd 135 = (0, 0) ∧ mz_kd 136 = (0, 0) ∧ mz_kd 137 = (0, 0) ∧ mz_kd 138 = (0, 0) ∧ mz_kd 139 = (101, 2) ∧ mz_kd 140 = (3, 0) ∧ mz_kd 141 = (100, 6) ∧ mz_kd 142 = (100, 6) ∧ mz_kd 143 = (100, 2) ∧ mz_kd 144 = (100, 2) ∧ mz_kd 145 = (100, 24) ∧ mz_kd 146 = (100, 896) ∧ mz_kd 147 = (100, 6) ∧ mz_kd 148 = (100, 6) ∧ mz_kd 149 = (100, 6) ∧ mz_kd 150 = (2, 0) ∧ mz_kd 151 = (100, 10) ∧ mz_kd 152 = (100, 10240) ∧ mz_kd 153 = (9, 0) ∧ mz_kd 154 = (100, 2430) ∧ mz_kd 155 = (100, 2430) ∧ mz_kd 156 = (100, 4860) ∧ mz_kd 157 = (101, 2) ∧ mz_kd 158 = (102, 600) ∧ mz_kd 159 = (100, 6) ∧ mz_kd 160 = (100, 6) ∧ mz_kd 161 = (100, 6) ∧ mz_kd 162 = (100, 6) ∧ mz_kd 163 = (100, 6) ∧ mz_kd 164 = (100, 10) ∧ mz_kd 165 = (100, 10240) ∧ mz_kd 166 = (100, 10) := by refine ⟨?_, ?_, ?_, ?_, ?_, ?_, ?_, ?_, ?_, ?_, ?_, ?_, ?_, ?_, ?_, ?_, ?_, ?_, ?_, ?_, ?_, ?_, ?_, ?_, ?_, ?_, ?_, ?_, ?_, ?_, ?_, ?_, ?_, ?_, ?_, ?_, ?_, ?_, ?_, ?_, ?_, ?_, ?_, ?_, ?_, ?_, ?_, ?_, ?_, ?_, ?_, ?_, ?_, ?_, ?_, ?_, ?_, ?_, ?_, ?_, ?_, ?_, ?_, ?_, ?_, ?_, ?_, ?_, ?_, ?_, ?_, ?_, ?_, ?_, ?_, ?_, ?_, ?_, ?_, ?_, ?_, ?_, ?_, ?_, ?_, ?_, ?_, ?_, ?_, ?_, ?_, ?_, ?_, ?_, ?_, ?_, ?_, ?_, ?_, ?_, ?_, ?_, ?_, ?_, ?_, ?_, ?_, ?_, ?_, ?_, ?_, ?_, ?_, ?_, ?_, ?_, ?_, ?_, ?_, ?_, ?_, ?_, ?_, ?_, ?_, ?_, ?_, ?_, ?_, ?_, ?_, ?_, ?_, ?_, ?_, ?_, ?_, ?_, ?_, ?_, ?_, ?_, ?_, ?_, ?_, ?_, ?_, ?_, ?_, ?_, ?_, ?_, ?_, ?_, ?_, ?_, ?_, ?_, ?_, ?_, ?_, ?_, ?_, ?_, ?_, ?_, ?_⟩ <;> rfl
theorem nfv : mz_nf 0 = 11 ∧ mz_nf 1 = 7 ∧ mz_nf 2 = 6 ∧ mz_nf 3 = 12 ∧ mz_nf 4 = 9 ∧ mz_nf 5 = 8 ∧ mz_nf 6 = 5 ∧ mz_nf 7 = 2 ∧ mz_nf 8 = 6 ∧ mz_nf 9 = 27 := by refine ⟨?_, ?_, ?_, ?_, ?_, ?_, ?_, ?_, ?_, ?_⟩ <;> rfl
theorem gi_X7_init (m : mz_M) {I : Nat → Nat → Bool} {S z : Nat} (hk : mz_kd (z + 1) = (100, 24)) : mz_cl 81 [mz_r 7 0 z] (gS (z + 1) S I m) none (gS (z + 2) (S + 24) (mz_iu (mz_if I (z + 1)) z 0) (mz_up (mz_zr m (z + 1)) z 1 120)) := by
  refine mz_cl_vc 30 (fun _ => false) [some (mz_r 7 0 z)] rfl ?_
  simp only [vcS0, vcS1, vcS2, vcS3, vcS4, vcS5, vcS6, vc_n0, vc_lk, vc_pop, vc_rc, vc_tsw, vc_fr, vc_ar, vc_tb, mz_nx, List.set_cons_zero, List.set_cons_succ, Nat.reduceAdd, Nat.reduceBEq, Nat.reduceEqDiff, Nat.reduceLeDiff, Nat.reduceLT, Nat.reduceMul, Int.reduceToNat, Bool.false_eq_true, Bool.or_self, Bool.or_true, Bool.true_or, Bool.or_false, reduceIte, Option.toList_some, Option.toList_none, List.nil_append, List.cons_append, List.length_cons, List.length_nil, true_and, and_true, Int.cast_ofNat_Int, Int.reduceEq, Int.reduceLT, Int.reduceLE, Nat.zero_le, and_self, or_true, true_or, cdS_81, hk]
theorem gi_X0_init (m : mz_M) {I : Nat → Nat → Bool} {T S c n : Nat} : mz_cl 55 [mz_r 0 0 c, mz_i n] (gS T S I m) none (gS T S I (mz_up m c 0 n)) := by
  refine mz_cl_vc 30 (fun _ => false) [some (mz_r 0 0 c), some (mz_i n)] rfl ?_
  simp only [vcS0, vcS1, vcS2, vcS3, vcS4, vcS5, vcS6, vc_n0, vc_lk, vc_pop, vc_rc, vc_tsw, vc_fr, vc_ar, vc_tb, mz_nx, List.set_cons_zero, List.set_cons_succ, Nat.reduceAdd, Nat.reduceBEq, Nat.reduceEqDiff, Nat.reduceLeDiff, Nat.reduceLT, Nat.reduceMul, Int.reduceToNat, Bool.false_eq_true, Bool.or_self, Bool.or_true, Bool.true_or, Bool.or_false, reduceIte, Option.toList_some, Option.toList_none, List.nil_append, List.cons_append, List.length_cons, List.length_nil, true_and, and_true, Int.cast_ofNat_Int, Int.reduceEq, Int.reduceLT, Int.reduceLE, Nat.zero_le, and_self, or_true, true_or, cdS_55]
theorem k38 {k : Nat} (h1 : 3 ≤ k) (h2 : k ≤ 8) : k = 3 ∨ k = 4 ∨ k = 5 ∨ k = 6 ∨ k = 7 ∨ k = 8 := by omega
theorem k04 {k : Nat} (h1 : k < 4) : k = 0 ∨ k = 1 ∨ k = 2 ∨ k = 3 := by omega
set_option maxRecDepth 20000 in
set_option maxHeartbeats 4000000 in
theorem gi_X4_init_2 (m : mz_M) (I : Nat → Nat → Bool) : ∃ (I1 : Nat → Nat → Bool) (m1 : mz_M), (∀ S, mz_cl 234 [mz_r 4 0 2] (gS 3 S I m) none (gS 17 (S + 338) I1 m1)) ∧ (∀ a k, a < 2 → I1 a k = I a k) ∧ (∀ a, a < 2 → m1 a = m a) ∧ iTo I1 2 ∧ ctN m1 2 := by
  apply Exists.intro
  apply Exists.intro
  refine ⟨fun S => ?_, ?_, ?_, ?_, ?_⟩
  · skip
    refine mz_cl_vc 200 (fun _ => false) [some (mz_r 4 0 2), none] rfl ?_
    simp only [vcS0, vcS1, vcS2, vcS3, vcS4, vcS5, vcS6, vc_n0, vc_lk, vc_pop, vc_rc, vc_tsw, vc_fr, vc_ar, vc_tb, mz_nx, List.set_cons_zero, List.set_cons_succ, Nat.reduceAdd, Nat.reduceBEq, Nat.reduceEqDiff, Nat.reduceLeDiff, Nat.reduceLT, Nat.reduceMul, Int.reduceToNat, Bool.false_eq_true, Bool.or_self, Bool.or_true, Bool.true_or, Bool.or_false, reduceIte, Option.toList_some, Option.toList_none, List.nil_append, List.cons_append, List.length_cons, List.length_nil, true_and, and_true, Int.cast_ofNat_Int, Int.reduceEq, Int.reduceLT, Int.reduceLE, Nat.zero_le, and_self, or_true, true_or, cdS_234, kdv, nfv, iu_at, if_at, and_false, false_and, Nat.reduceEqDiff, reduceCtorEq, Int.reduceAdd]
    refine ⟨_, _, gi_X7_init (z := 9) _ rfl, ?_⟩
    simp only [vcS0, vcS1, vcS2, vcS3, vcS4, vcS5, vcS6, vc_n0, vc_lk, vc_pop, vc_rc, vc_tsw, vc_fr, vc_ar, vc_tb, mz_nx, List.set_cons_zero, List.set_cons_succ, Nat.reduceAdd, Nat.reduceBEq, Nat.reduceEqDiff, Nat.reduceLeDiff, Nat.reduceLT, Nat.reduceMul, Int.reduceToNat, Bool.false_eq_true, Bool.or_self, Bool.or_true, Bool.true_or, Bool.or_false, reduceIte, Option.toList_some, Option.toList_none, List.nil_append, List.cons_append, List.length_cons, List.length_nil, true_and, and_true, Int.cast_ofNat_Int, Int.reduceEq, Int.reduceLT, Int.reduceLE, Nat.zero_le, and_self, or_true, true_or, cdS_234, kdv, nfv, iu_at, if_at, and_false, false_and, Nat.reduceEqDiff, reduceCtorEq, Int.reduceAdd]
    refine ⟨(by unfold mz_w; omega), _, _, gi_X7_init (z := 11) _ rfl, ?_⟩
    simp only [vcS0, vcS1, vcS2, vcS3, vcS4, vcS5, vcS6, vc_n0, vc_lk, vc_pop, vc_rc, vc_tsw, vc_fr, vc_ar, vc_tb, mz_nx, List.set_cons_zero, List.set_cons_succ, Nat.reduceAdd, Nat.reduceBEq, Nat.reduceEqDiff, Nat.reduceLeDiff, Nat.reduceLT, Nat.reduceMul, Int.reduceToNat, Bool.false_eq_true, Bool.or_self, Bool.or_true, Bool.true_or, Bool.or_false, reduceIte, Option.toList_some, Option.toList_none, List.nil_append, List.cons_append, List.length_cons, List.length_nil, true_and, and_true, Int.cast_ofNat_Int, Int.reduceEq, Int.reduceLT, Int.reduceLE, Nat.zero_le, and_self, or_true, true_or, cdS_234, kdv, nfv, iu_at, if_at, and_false, false_and, Nat.reduceEqDiff, reduceCtorEq, Int.reduceAdd]
    refine ⟨(by unfold mz_w; omega), _, _, gi_X7_init (z := 13) _ rfl, ?_⟩
    simp only [vcS0, vcS1, vcS2, vcS3, vcS4, vcS5, vcS6, vc_n0, vc_lk, vc_pop, vc_rc, vc_tsw, vc_fr, vc_ar, vc_tb, mz_nx, List.set_cons_zero, List.set_cons_succ, Nat.reduceAdd, Nat.reduceBEq, Nat.reduceEqDiff, Nat.reduceLeDiff, Nat.reduceLT, Nat.reduceMul, Int.reduceToNat, Bool.false_eq_true, Bool.or_self, Bool.or_true, Bool.true_or, Bool.or_false, reduceIte, Option.toList_some, Option.toList_none, List.nil_append, List.cons_append, List.length_cons, List.length_nil, true_and, and_true, Int.cast_ofNat_Int, Int.reduceEq, Int.reduceLT, Int.reduceLE, Nat.zero_le, and_self, or_true, true_or, cdS_234, kdv, nfv, iu_at, if_at, and_false, false_and, Nat.reduceEqDiff, reduceCtorEq, Int.reduceAdd]
    refine ⟨(by unfold mz_w; omega), _, _, gi_X7_init (z := 15) _ rfl, ?_⟩
    simp only [vcS0, vcS1, vcS2, vcS3, vcS4, vcS5, vcS6, vc_n0, vc_lk, vc_pop, vc_rc, vc_tsw, vc_fr, vc_ar, vc_tb, mz_nx, List.set_cons_zero, List.set_cons_succ, Nat.reduceAdd, Nat.reduceBEq, Nat.reduceEqDiff, Nat.reduceLeDiff, Nat.reduceLT, Nat.reduceMul, Int.reduceToNat, Bool.false_eq_true, Bool.or_self, Bool.or_true, Bool.true_or, Bool.or_false, reduceIte, Option.toList_some, Option.toList_none, List.nil_append, List.cons_append, List.length_cons, List.length_nil, true_and, and_true, Int.cast_ofNat_Int, Int.reduceEq, Int.reduceLT, Int.reduceLE, Nat.zero_le, and_self, or_true, true_or, cdS_234, kdv, nfv, iu_at, if_at, and_false, false_and, Nat.reduceEqDiff, reduceCtorEq, Int.reduceAdd]
    refine ⟨(by unfold mz_w; omega), _, _, gi_tclear _ 2 (fun k h1 h2 => ?_) (fun k h1 => ?_) (fun z hz => ?_), ?_⟩
    · rcases k38 h1 h2 with rfl | rfl | rfl | rfl | rfl | rfl <;> simp [iu_at, if_at]
    · rcases k04 h1 with rfl | rfl | rfl | rfl <;> simp [iu_at, if_at]
    · rcases k04 hz with rfl | rfl | rfl | rfl <;> simp [iu_at, if_at]
    simp only [vcS0, vcS1, vcS2, vcS3, vcS4, vcS5, vcS6, vc_n0, vc_lk, vc_pop, vc_rc, vc_tsw, vc_fr, vc_ar, vc_tb, mz_nx, List.set_cons_zero, List.set_cons_succ, Nat.reduceAdd, Nat.reduceBEq, Nat.reduceEqDiff, Nat.reduceLeDiff, Nat.reduceLT, Nat.reduceMul, Int.reduceToNat, Bool.false_eq_true, Bool.or_self, Bool.or_true, Bool.true_or, Bool.or_false, reduceIte, Option.toList_some, Option.toList_none, List.nil_append, List.cons_append, List.length_cons, List.length_nil, true_and, and_true, Int.cast_ofNat_Int, Int.reduceEq, Int.reduceLT, Int.reduceLE, Nat.zero_le, and_self, or_true, true_or, cdS_234, kdv, nfv, iu_at, if_at, and_false, false_and, Nat.reduceEqDiff, reduceCtorEq, Int.reduceAdd]
    exact tu rfl (by omega) rfl rfl
  · intro a k ha
    simp (disch := omega) only [iu_o, if_o]
  · intro a ha
    funext j
    simp (disch := omega) only [tCl_o, up_o, zr_o]
  · refine ⟨fun k h1 h2 => ?_, fun k h1 => ?_, fun z hz => ?_⟩
    · rcases k38 h1 h2 with rfl | rfl | rfl | rfl | rfl | rfl <;> simp [iu_at, if_at]
    · rcases k04 h1 with rfl | rfl | rfl | rfl <;> simp [iu_at, if_at]
    · rcases k04 hz with rfl | rfl | rfl | rfl <;> simp [iu_at, if_at]
  · exact tC_ct _ _
set_option maxRecDepth 20000 in
set_option maxHeartbeats 4000000 in
theorem gi_X4_init_19 (m : mz_M) (I : Nat → Nat → Bool) : ∃ (I1 : Nat → Nat → Bool) (m1 : mz_M), (∀ S, mz_cl 234 [mz_r 4 0 19] (gS 20 S I m) none (gS 34 (S + 338) I1 m1)) ∧ (∀ a k, a < 19 → I1 a k = I a k) ∧ (∀ a, a < 19 → m1 a = m a) ∧ iTo I1 19 ∧ ctN m1 19 := by
  apply Exists.intro
  apply Exists.intro
  refine ⟨fun S => ?_, ?_, ?_, ?_, ?_⟩
  · skip
    refine mz_cl_vc 200 (fun _ => false) [some (mz_r 4 0 19), none] rfl ?_
    simp only [vcS0, vcS1, vcS2, vcS3, vcS4, vcS5, vcS6, vc_n0, vc_lk, vc_pop, vc_rc, vc_tsw, vc_fr, vc_ar, vc_tb, mz_nx, List.set_cons_zero, List.set_cons_succ, Nat.reduceAdd, Nat.reduceBEq, Nat.reduceEqDiff, Nat.reduceLeDiff, Nat.reduceLT, Nat.reduceMul, Int.reduceToNat, Bool.false_eq_true, Bool.or_self, Bool.or_true, Bool.true_or, Bool.or_false, reduceIte, Option.toList_some, Option.toList_none, List.nil_append, List.cons_append, List.length_cons, List.length_nil, true_and, and_true, Int.cast_ofNat_Int, Int.reduceEq, Int.reduceLT, Int.reduceLE, Nat.zero_le, and_self, or_true, true_or, cdS_234, kdv, nfv, iu_at, if_at, and_false, false_and, Nat.reduceEqDiff, reduceCtorEq, Int.reduceAdd]
    refine ⟨_, _, gi_X7_init (z := 26) _ rfl, ?_⟩
    simp only [vcS0, vcS1, vcS2, vcS3, vcS4, vcS5, vcS6, vc_n0, vc_lk, vc_pop, vc_rc, vc_tsw, vc_fr, vc_ar, vc_tb, mz_nx, List.set_cons_zero, List.set_cons_succ, Nat.reduceAdd, Nat.reduceBEq, Nat.reduceEqDiff, Nat.reduceLeDiff, Nat.reduceLT, Nat.reduceMul, Int.reduceToNat, Bool.false_eq_true, Bool.or_self, Bool.or_true, Bool.true_or, Bool.or_false, reduceIte, Option.toList_some, Option.toList_none, List.nil_append, List.cons_append, List.length_cons, List.length_nil, true_and, and_true, Int.cast_ofNat_Int, Int.reduceEq, Int.reduceLT, Int.reduceLE, Nat.zero_le, and_self, or_true, true_or, cdS_234, kdv, nfv, iu_at, if_at, and_false, false_and, Nat.reduceEqDiff, reduceCtorEq, Int.reduceAdd]
    refine ⟨(by unfold mz_w; omega), _, _, gi_X7_init (z := 28) _ rfl, ?_⟩
    simp only [vcS0, vcS1, vcS2, vcS3, vcS4, vcS5, vcS6, vc_n0, vc_lk, vc_pop, vc_rc, vc_tsw, vc_fr, vc_ar, vc_tb, mz_nx, List.set_cons_zero, List.set_cons_succ, Nat.reduceAdd, Nat.reduceBEq, Nat.reduceEqDiff, Nat.reduceLeDiff, Nat.reduceLT, Nat.reduceMul, Int.reduceToNat, Bool.false_eq_true, Bool.or_self, Bool.or_true, Bool.true_or, Bool.or_false, reduceIte, Option.toList_some, Option.toList_none, List.nil_append, List.cons_append, List.length_cons, List.length_nil, true_and, and_true, Int.cast_ofNat_Int, Int.reduceEq, Int.reduceLT, Int.reduceLE, Nat.zero_le, and_self, or_true, true_or, cdS_234, kdv, nfv, iu_at, if_at, and_false, false_and, Nat.reduceEqDiff, reduceCtorEq, Int.reduceAdd]
    refine ⟨(by unfold mz_w; omega), _, _, gi_X7_init (z := 30) _ rfl, ?_⟩
    simp only [vcS0, vcS1, vcS2, vcS3, vcS4, vcS5, vcS6, vc_n0, vc_lk, vc_pop, vc_rc, vc_tsw, vc_fr, vc_ar, vc_tb, mz_nx, List.set_cons_zero, List.set_cons_succ, Nat.reduceAdd, Nat.reduceBEq, Nat.reduceEqDiff, Nat.reduceLeDiff, Nat.reduceLT, Nat.reduceMul, Int.reduceToNat, Bool.false_eq_true, Bool.or_self, Bool.or_true, Bool.true_or, Bool.or_false, reduceIte, Option.toList_some, Option.toList_none, List.nil_append, List.cons_append, List.length_cons, List.length_nil, true_and, and_true, Int.cast_ofNat_Int, Int.reduceEq, Int.reduceLT, Int.reduceLE, Nat.zero_le, and_self, or_true, true_or, cdS_234, kdv, nfv, iu_at, if_at, and_false, false_and, Nat.reduceEqDiff, reduceCtorEq, Int.reduceAdd]
    refine ⟨(by unfold mz_w; omega), _, _, gi_X7_init (z := 32) _ rfl, ?_⟩
    simp only [vcS0, vcS1, vcS2, vcS3, vcS4, vcS5, vcS6, vc_n0, vc_lk, vc_pop, vc_rc, vc_tsw, vc_fr, vc_ar, vc_tb, mz_nx, List.set_cons_zero, List.set_cons_succ, Nat.reduceAdd, Nat.reduceBEq, Nat.reduceEqDiff, Nat.reduceLeDiff, Nat.reduceLT, Nat.reduceMul, Int.reduceToNat, Bool.false_eq_true, Bool.or_self, Bool.or_true, Bool.true_or, Bool.or_false, reduceIte, Option.toList_some, Option.toList_none, List.nil_append, List.cons_append, List.length_cons, List.length_nil, true_and, and_true, Int.cast_ofNat_Int, Int.reduceEq, Int.reduceLT, Int.reduceLE, Nat.zero_le, and_self, or_true, true_or, cdS_234, kdv, nfv, iu_at, if_at, and_false, false_and, Nat.reduceEqDiff, reduceCtorEq, Int.reduceAdd]
    refine ⟨(by unfold mz_w; omega), _, _, gi_tclear _ 19 (fun k h1 h2 => ?_) (fun k h1 => ?_) (fun z hz => ?_), ?_⟩
    · rcases k38 h1 h2 with rfl | rfl | rfl | rfl | rfl | rfl <;> simp [iu_at, if_at]
    · rcases k04 h1 with rfl | rfl | rfl | rfl <;> simp [iu_at, if_at]
    · rcases k04 hz with rfl | rfl | rfl | rfl <;> simp [iu_at, if_at]
    simp only [vcS0, vcS1, vcS2, vcS3, vcS4, vcS5, vcS6, vc_n0, vc_lk, vc_pop, vc_rc, vc_tsw, vc_fr, vc_ar, vc_tb, mz_nx, List.set_cons_zero, List.set_cons_succ, Nat.reduceAdd, Nat.reduceBEq, Nat.reduceEqDiff, Nat.reduceLeDiff, Nat.reduceLT, Nat.reduceMul, Int.reduceToNat, Bool.false_eq_true, Bool.or_self, Bool.or_true, Bool.true_or, Bool.or_false, reduceIte, Option.toList_some, Option.toList_none, List.nil_append, List.cons_append, List.length_cons, List.length_nil, true_and, and_true, Int.cast_ofNat_Int, Int.reduceEq, Int.reduceLT, Int.reduceLE, Nat.zero_le, and_self, or_true, true_or, cdS_234, kdv, nfv, iu_at, if_at, and_false, false_and, Nat.reduceEqDiff, reduceCtorEq, Int.reduceAdd]
    exact tu rfl (by omega) rfl rfl
  · intro a k ha
    simp (disch := omega) only [iu_o, if_o]
  · intro a ha
    funext j
    simp (disch := omega) only [tCl_o, up_o, zr_o]
  · refine ⟨fun k h1 h2 => ?_, fun k h1 => ?_, fun z hz => ?_⟩
    · rcases k38 h1 h2 with rfl | rfl | rfl | rfl | rfl | rfl <;> simp [iu_at, if_at]
    · rcases k04 h1 with rfl | rfl | rfl | rfl <;> simp [iu_at, if_at]
    · rcases k04 hz with rfl | rfl | rfl | rfl <;> simp [iu_at, if_at]
  · exact tC_ct _ _
set_option maxRecDepth 20000 in
set_option maxHeartbeats 4000000 in
theorem gi_X4_init_60 (m : mz_M) (I : Nat → Nat → Bool) : ∃ (I1 : Nat → Nat → Bool) (m1 : mz_M), (∀ S, mz_cl 234 [mz_r 4 0 60] (gS 61 S I m) none (gS 75 (S + 338) I1 m1)) ∧ (∀ a k, a < 60 → I1 a k = I a k) ∧ (∀ a, a < 60 → m1 a = m a) ∧ iTo I1 60 ∧ ctN m1 60 := by
  apply Exists.intro
  apply Exists.intro
  refine ⟨fun S => ?_, ?_, ?_, ?_, ?_⟩
  · skip
    refine mz_cl_vc 200 (fun _ => false) [some (mz_r 4 0 60), none] rfl ?_
    simp only [vcS0, vcS1, vcS2, vcS3, vcS4, vcS5, vcS6, vc_n0, vc_lk, vc_pop, vc_rc, vc_tsw, vc_fr, vc_ar, vc_tb, mz_nx, List.set_cons_zero, List.set_cons_succ, Nat.reduceAdd, Nat.reduceBEq, Nat.reduceEqDiff, Nat.reduceLeDiff, Nat.reduceLT, Nat.reduceMul, Int.reduceToNat, Bool.false_eq_true, Bool.or_self, Bool.or_true, Bool.true_or, Bool.or_false, reduceIte, Option.toList_some, Option.toList_none, List.nil_append, List.cons_append, List.length_cons, List.length_nil, true_and, and_true, Int.cast_ofNat_Int, Int.reduceEq, Int.reduceLT, Int.reduceLE, Nat.zero_le, and_self, or_true, true_or, cdS_234, kdv, nfv, iu_at, if_at, and_false, false_and, Nat.reduceEqDiff, reduceCtorEq, Int.reduceAdd]
    refine ⟨_, _, gi_X7_init (z := 67) _ rfl, ?_⟩
    simp only [vcS0, vcS1, vcS2, vcS3, vcS4, vcS5, vcS6, vc_n0, vc_lk, vc_pop, vc_rc, vc_tsw, vc_fr, vc_ar, vc_tb, mz_nx, List.set_cons_zero, List.set_cons_succ, Nat.reduceAdd, Nat.reduceBEq, Nat.reduceEqDiff, Nat.reduceLeDiff, Nat.reduceLT, Nat.reduceMul, Int.reduceToNat, Bool.false_eq_true, Bool.or_self, Bool.or_true, Bool.true_or, Bool.or_false, reduceIte, Option.toList_some, Option.toList_none, List.nil_append, List.cons_append, List.length_cons, List.length_nil, true_and, and_true, Int.cast_ofNat_Int, Int.reduceEq, Int.reduceLT, Int.reduceLE, Nat.zero_le, and_self, or_true, true_or, cdS_234, kdv, nfv, iu_at, if_at, and_false, false_and, Nat.reduceEqDiff, reduceCtorEq, Int.reduceAdd]
    refine ⟨(by unfold mz_w; omega), _, _, gi_X7_init (z := 69) _ rfl, ?_⟩
    simp only [vcS0, vcS1, vcS2, vcS3, vcS4, vcS5, vcS6, vc_n0, vc_lk, vc_pop, vc_rc, vc_tsw, vc_fr, vc_ar, vc_tb, mz_nx, List.set_cons_zero, List.set_cons_succ, Nat.reduceAdd, Nat.reduceBEq, Nat.reduceEqDiff, Nat.reduceLeDiff, Nat.reduceLT, Nat.reduceMul, Int.reduceToNat, Bool.false_eq_true, Bool.or_self, Bool.or_true, Bool.true_or, Bool.or_false, reduceIte, Option.toList_some, Option.toList_none, List.nil_append, List.cons_append, List.length_cons, List.length_nil, true_and, and_true, Int.cast_ofNat_Int, Int.reduceEq, Int.reduceLT, Int.reduceLE, Nat.zero_le, and_self, or_true, true_or, cdS_234, kdv, nfv, iu_at, if_at, and_false, false_and, Nat.reduceEqDiff, reduceCtorEq, Int.reduceAdd]
    refine ⟨(by unfold mz_w; omega), _, _, gi_X7_init (z := 71) _ rfl, ?_⟩
    simp only [vcS0, vcS1, vcS2, vcS3, vcS4, vcS5, vcS6, vc_n0, vc_lk, vc_pop, vc_rc, vc_tsw, vc_fr, vc_ar, vc_tb, mz_nx, List.set_cons_zero, List.set_cons_succ, Nat.reduceAdd, Nat.reduceBEq, Nat.reduceEqDiff, Nat.reduceLeDiff, Nat.reduceLT, Nat.reduceMul, Int.reduceToNat, Bool.false_eq_true, Bool.or_self, Bool.or_true, Bool.true_or, Bool.or_false, reduceIte, Option.toList_some, Option.toList_none, List.nil_append, List.cons_append, List.length_cons, List.length_nil, true_and, and_true, Int.cast_ofNat_Int, Int.reduceEq, Int.reduceLT, Int.reduceLE, Nat.zero_le, and_self, or_true, true_or, cdS_234, kdv, nfv, iu_at, if_at, and_false, false_and, Nat.reduceEqDiff, reduceCtorEq, Int.reduceAdd]
    refine ⟨(by unfold mz_w; omega), _, _, gi_X7_init (z := 73) _ rfl, ?_⟩
    simp only [vcS0, vcS1, vcS2, vcS3, vcS4, vcS5, vcS6, vc_n0, vc_lk, vc_pop, vc_rc, vc_tsw, vc_fr, vc_ar, vc_tb, mz_nx, List.set_cons_zero, List.set_cons_succ, Nat.reduceAdd, Nat.reduceBEq, Nat.reduceEqDiff, Nat.reduceLeDiff, Nat.reduceLT, Nat.reduceMul, Int.reduceToNat, Bool.false_eq_true, Bool.or_self, Bool.or_true, Bool.true_or, Bool.or_false, reduceIte, Option.toList_some, Option.toList_none, List.nil_append, List.cons_append, List.length_cons, List.length_nil, true_and, and_true, Int.cast_ofNat_Int, Int.reduceEq, Int.reduceLT, Int.reduceLE, Nat.zero_le, and_self, or_true, true_or, cdS_234, kdv, nfv, iu_at, if_at, and_false, false_and, Nat.reduceEqDiff, reduceCtorEq, Int.reduceAdd]
    refine ⟨(by unfold mz_w; omega), _, _, gi_tclear _ 60 (fun k h1 h2 => ?_) (fun k h1 => ?_) (fun z hz => ?_), ?_⟩
    · rcases k38 h1 h2 with rfl | rfl | rfl | rfl | rfl | rfl <;> simp [iu_at, if_at]
    · rcases k04 h1 with rfl | rfl | rfl | rfl <;> simp [iu_at, if_at]
    · rcases k04 hz with rfl | rfl | rfl | rfl <;> simp [iu_at, if_at]
    simp only [vcS0, vcS1, vcS2, vcS3, vcS4, vcS5, vcS6, vc_n0, vc_lk, vc_pop, vc_rc, vc_tsw, vc_fr, vc_ar, vc_tb, mz_nx, List.set_cons_zero, List.set_cons_succ, Nat.reduceAdd, Nat.reduceBEq, Nat.reduceEqDiff, Nat.reduceLeDiff, Nat.reduceLT, Nat.reduceMul, Int.reduceToNat, Bool.false_eq_true, Bool.or_self, Bool.or_true, Bool.true_or, Bool.or_false, reduceIte, Option.toList_some, Option.toList_none, List.nil_append, List.cons_append, List.length_cons, List.length_nil, true_and, and_true, Int.cast_ofNat_Int, Int.reduceEq, Int.reduceLT, Int.reduceLE, Nat.zero_le, and_self, or_true, true_or, cdS_234, kdv, nfv, iu_at, if_at, and_false, false_and, Nat.reduceEqDiff, reduceCtorEq, Int.reduceAdd]
    exact tu rfl (by omega) rfl rfl
  · intro a k ha
    simp (disch := omega) only [iu_o, if_o]
  · intro a ha
    funext j
    simp (disch := omega) only [tCl_o, up_o, zr_o]
  · refine ⟨fun k h1 h2 => ?_, fun k h1 => ?_, fun z hz => ?_⟩
    · rcases k38 h1 h2 with rfl | rfl | rfl | rfl | rfl | rfl <;> simp [iu_at, if_at]
    · rcases k04 h1 with rfl | rfl | rfl | rfl <;> simp [iu_at, if_at]
    · rcases k04 hz with rfl | rfl | rfl | rfl <;> simp [iu_at, if_at]
  · exact tC_ct _ _
set_option maxRecDepth 20000 in
set_option maxHeartbeats 4000000 in
theorem gi_X4_init_100 (m : mz_M) (I : Nat → Nat → Bool) : ∃ (I1 : Nat → Nat → Bool) (m1 : mz_M), (∀ S, mz_cl 234 [mz_r 4 0 100] (gS 101 S I m) none (gS 115 (S + 338) I1 m1)) ∧ (∀ a k, a < 100 → I1 a k = I a k) ∧ (∀ a, a < 100 → m1 a = m a) ∧ iTo I1 100 ∧ ctN m1 100 := by
  apply Exists.intro
  apply Exists.intro
  refine ⟨fun S => ?_, ?_, ?_, ?_, ?_⟩
  · skip
    refine mz_cl_vc 200 (fun _ => false) [some (mz_r 4 0 100), none] rfl ?_
    simp only [vcS0, vcS1, vcS2, vcS3, vcS4, vcS5, vcS6, vc_n0, vc_lk, vc_pop, vc_rc, vc_tsw, vc_fr, vc_ar, vc_tb, mz_nx, List.set_cons_zero, List.set_cons_succ, Nat.reduceAdd, Nat.reduceBEq, Nat.reduceEqDiff, Nat.reduceLeDiff, Nat.reduceLT, Nat.reduceMul, Int.reduceToNat, Bool.false_eq_true, Bool.or_self, Bool.or_true, Bool.true_or, Bool.or_false, reduceIte, Option.toList_some, Option.toList_none, List.nil_append, List.cons_append, List.length_cons, List.length_nil, true_and, and_true, Int.cast_ofNat_Int, Int.reduceEq, Int.reduceLT, Int.reduceLE, Nat.zero_le, and_self, or_true, true_or, cdS_234, kdv, nfv, iu_at, if_at, and_false, false_and, Nat.reduceEqDiff, reduceCtorEq, Int.reduceAdd]
    refine ⟨_, _, gi_X7_init (z := 107) _ rfl, ?_⟩
    simp only [vcS0, vcS1, vcS2, vcS3, vcS4, vcS5, vcS6, vc_n0, vc_lk, vc_pop, vc_rc, vc_tsw, vc_fr, vc_ar, vc_tb, mz_nx, List.set_cons_zero, List.set_cons_succ, Nat.reduceAdd, Nat.reduceBEq, Nat.reduceEqDiff, Nat.reduceLeDiff, Nat.reduceLT, Nat.reduceMul, Int.reduceToNat, Bool.false_eq_true, Bool.or_self, Bool.or_true, Bool.true_or, Bool.or_false, reduceIte, Option.toList_some, Option.toList_none, List.nil_append, List.cons_append, List.length_cons, List.length_nil, true_and, and_true, Int.cast_ofNat_Int, Int.reduceEq, Int.reduceLT, Int.reduceLE, Nat.zero_le, and_self, or_true, true_or, cdS_234, kdv, nfv, iu_at, if_at, and_false, false_and, Nat.reduceEqDiff, reduceCtorEq, Int.reduceAdd]
    refine ⟨(by unfold mz_w; omega), _, _, gi_X7_init (z := 109) _ rfl, ?_⟩
    simp only [vcS0, vcS1, vcS2, vcS3, vcS4, vcS5, vcS6, vc_n0, vc_lk, vc_pop, vc_rc, vc_tsw, vc_fr, vc_ar, vc_tb, mz_nx, List.set_cons_zero, List.set_cons_succ, Nat.reduceAdd, Nat.reduceBEq, Nat.reduceEqDiff, Nat.reduceLeDiff, Nat.reduceLT, Nat.reduceMul, Int.reduceToNat, Bool.false_eq_true, Bool.or_self, Bool.or_true, Bool.true_or, Bool.or_false, reduceIte, Option.toList_some, Option.toList_none, List.nil_append, List.cons_append, List.length_cons, List.length_nil, true_and, and_true, Int.cast_ofNat_Int, Int.reduceEq, Int.reduceLT, Int.reduceLE, Nat.zero_le, and_self, or_true, true_or, cdS_234, kdv, nfv, iu_at, if_at, and_false, false_and, Nat.reduceEqDiff, reduceCtorEq, Int.reduceAdd]
    refine ⟨(by unfold mz_w; omega), _, _, gi_X7_init (z := 111) _ rfl, ?_⟩
    simp only [vcS0, vcS1, vcS2, vcS3, vcS4, vcS5, vcS6, vc_n0, vc_lk, vc_pop, vc_rc, vc_tsw, vc_fr, vc_ar, vc_tb, mz_nx, List.set_cons_zero, List.set_cons_succ, Nat.reduceAdd, Nat.reduceBEq, Nat.reduceEqDiff, Nat.reduceLeDiff, Nat.reduceLT, Nat.reduceMul, Int.reduceToNat, Bool.false_eq_true, Bool.or_self, Bool.or_true, Bool.true_or, Bool.or_false, reduceIte, Option.toList_some, Option.toList_none, List.nil_append, List.cons_append, List.length_cons, List.length_nil, true_and, and_true, Int.cast_ofNat_Int, Int.reduceEq, Int.reduceLT, Int.reduceLE, Nat.zero_le, and_self, or_true, true_or, cdS_234, kdv, nfv, iu_at, if_at, and_false, false_and, Nat.reduceEqDiff, reduceCtorEq, Int.reduceAdd]
    refine ⟨(by unfold mz_w; omega), _, _, gi_X7_init (z := 113) _ rfl, ?_⟩
    simp only [vcS0, vcS1, vcS2, vcS3, vcS4, vcS5, vcS6, vc_n0, vc_lk, vc_pop, vc_rc, vc_tsw, vc_fr, vc_ar, vc_tb, mz_nx, List.set_cons_zero, List.set_cons_succ, Nat.reduceAdd, Nat.reduceBEq, Nat.reduceEqDiff, Nat.reduceLeDiff, Nat.reduceLT, Nat.reduceMul, Int.reduceToNat, Bool.false_eq_true, Bool.or_self, Bool.or_true, Bool.true_or, Bool.or_false, reduceIte, Option.toList_some, Option.toList_none, List.nil_append, List.cons_append, List.length_cons, List.length_nil, true_and, and_true, Int.cast_ofNat_Int, Int.reduceEq, Int.reduceLT, Int.reduceLE, Nat.zero_le, and_self, or_true, true_or, cdS_234, kdv, nfv, iu_at, if_at, and_false, false_and, Nat.reduceEqDiff, reduceCtorEq, Int.reduceAdd]
    refine ⟨(by unfold mz_w; omega), _, _, gi_tclear _ 100 (fun k h1 h2 => ?_) (fun k h1 => ?_) (fun z hz => ?_), ?_⟩
    · rcases k38 h1 h2 with rfl | rfl | rfl | rfl | rfl | rfl <;> simp [iu_at, if_at]
    · rcases k04 h1 with rfl | rfl | rfl | rfl <;> simp [iu_at, if_at]
    · rcases k04 hz with rfl | rfl | rfl | rfl <;> simp [iu_at, if_at]
    simp only [vcS0, vcS1, vcS2, vcS3, vcS4, vcS5, vcS6, vc_n0, vc_lk, vc_pop, vc_rc, vc_tsw, vc_fr, vc_ar, vc_tb, mz_nx, List.set_cons_zero, List.set_cons_succ, Nat.reduceAdd, Nat.reduceBEq, Nat.reduceEqDiff, Nat.reduceLeDiff, Nat.reduceLT, Nat.reduceMul, Int.reduceToNat, Bool.false_eq_true, Bool.or_self, Bool.or_true, Bool.true_or, Bool.or_false, reduceIte, Option.toList_some, Option.toList_none, List.nil_append, List.cons_append, List.length_cons, List.length_nil, true_and, and_true, Int.cast_ofNat_Int, Int.reduceEq, Int.reduceLT, Int.reduceLE, Nat.zero_le, and_self, or_true, true_or, cdS_234, kdv, nfv, iu_at, if_at, and_false, false_and, Nat.reduceEqDiff, reduceCtorEq, Int.reduceAdd]
    exact tu rfl (by omega) rfl rfl
  · intro a k ha
    simp (disch := omega) only [iu_o, if_o]
  · intro a ha
    funext j
    simp (disch := omega) only [tCl_o, up_o, zr_o]
  · refine ⟨fun k h1 h2 => ?_, fun k h1 => ?_, fun z hz => ?_⟩
    · rcases k38 h1 h2 with rfl | rfl | rfl | rfl | rfl | rfl <;> simp [iu_at, if_at]
    · rcases k04 h1 with rfl | rfl | rfl | rfl <;> simp [iu_at, if_at]
    · rcases k04 hz with rfl | rfl | rfl | rfl <;> simp [iu_at, if_at]
  · exact tC_ct _ _
set_option maxRecDepth 20000 in
theorem gi_X1_init_35 (m : mz_M) (I : Nat → Nat → Bool) : ∃ (I1 : Nat → Nat → Bool) (m1 : mz_M), (∀ S, mz_cl 60 [mz_r 1 0 35] (gS 36 S I m) none (gS 42 (S + 1626) I1 m1)) ∧ (∀ a k, a < 35 → I1 a k = I a k) ∧ (∀ a, a ≤ 35 → m1 a = m a) ∧ (∀ k, 1 ≤ k → k ≤ 6 → I1 35 k = true) := by
  apply Exists.intro
  apply Exists.intro
  refine ⟨fun S => ?_, ?_, ?_, ?_⟩
  · skip
    refine mz_cl_vc 60 (fun _ => false) [some (mz_r 1 0 35)] rfl ?_
    simp only [vcS0, vcS1, vcS2, vcS3, vcS4, vcS5, vcS6, vc_n0, vc_lk, vc_pop, vc_rc, vc_tsw, vc_fr, vc_ar, vc_tb, mz_nx, List.set_cons_zero, List.set_cons_succ, Nat.reduceAdd, Nat.reduceBEq, Nat.reduceEqDiff, Nat.reduceLeDiff, Nat.reduceLT, Nat.reduceMul, Int.reduceToNat, Bool.false_eq_true, Bool.or_self, Bool.or_true, Bool.true_or, Bool.or_false, reduceIte, Option.toList_some, Option.toList_none, List.nil_append, List.cons_append, List.length_cons, List.length_nil, true_and, and_true, Int.cast_ofNat_Int, Int.reduceEq, Int.reduceLT, Int.reduceLE, Nat.zero_le, and_self, or_true, true_or, cdS_60, kdv, nfv, iu_at, if_at, and_false, false_and, Nat.reduceEqDiff, reduceCtorEq, Int.reduceAdd]
    exact tu rfl (by omega) rfl rfl
  · intro a k ha
    simp (disch := omega) only [iu_o, if_o]
  · intro a ha
    funext j
    simp (disch := omega) only [zr_o]
  · intro k h1 h2
    rcases (show k = 1 ∨ k = 2 ∨ k = 3 ∨ k = 4 ∨ k = 5 ∨ k = 6 by omega) with rfl | rfl | rfl | rfl | rfl | rfl <;> simp [iu_at, if_at]
set_option maxRecDepth 20000 in
theorem gi_X1_init_76 (m : mz_M) (I : Nat → Nat → Bool) : ∃ (I1 : Nat → Nat → Bool) (m1 : mz_M), (∀ S, mz_cl 60 [mz_r 1 0 76] (gS 77 S I m) none (gS 83 (S + 1626) I1 m1)) ∧ (∀ a k, a < 76 → I1 a k = I a k) ∧ (∀ a, a ≤ 76 → m1 a = m a) ∧ (∀ k, 1 ≤ k → k ≤ 6 → I1 76 k = true) := by
  apply Exists.intro
  apply Exists.intro
  refine ⟨fun S => ?_, ?_, ?_, ?_⟩
  · skip
    refine mz_cl_vc 60 (fun _ => false) [some (mz_r 1 0 76)] rfl ?_
    simp only [vcS0, vcS1, vcS2, vcS3, vcS4, vcS5, vcS6, vc_n0, vc_lk, vc_pop, vc_rc, vc_tsw, vc_fr, vc_ar, vc_tb, mz_nx, List.set_cons_zero, List.set_cons_succ, Nat.reduceAdd, Nat.reduceBEq, Nat.reduceEqDiff, Nat.reduceLeDiff, Nat.reduceLT, Nat.reduceMul, Int.reduceToNat, Bool.false_eq_true, Bool.or_self, Bool.or_true, Bool.true_or, Bool.or_false, reduceIte, Option.toList_some, Option.toList_none, List.nil_append, List.cons_append, List.length_cons, List.length_nil, true_and, and_true, Int.cast_ofNat_Int, Int.reduceEq, Int.reduceLT, Int.reduceLE, Nat.zero_le, and_self, or_true, true_or, cdS_60, kdv, nfv, iu_at, if_at, and_false, false_and, Nat.reduceEqDiff, reduceCtorEq, Int.reduceAdd]
    exact tu rfl (by omega) rfl rfl
  · intro a k ha
    simp (disch := omega) only [iu_o, if_o]
  · intro a ha
    funext j
    simp (disch := omega) only [zr_o]
  · intro k h1 h2
    rcases (show k = 1 ∨ k = 2 ∨ k = 3 ∨ k = 4 ∨ k = 5 ∨ k = 6 by omega) with rfl | rfl | rfl | rfl | rfl | rfl <;> simp [iu_at, if_at]
set_option maxRecDepth 20000 in
theorem gi_X1_init_116 (m : mz_M) (I : Nat → Nat → Bool) : ∃ (I1 : Nat → Nat → Bool) (m1 : mz_M), (∀ S, mz_cl 60 [mz_r 1 0 116] (gS 117 S I m) none (gS 123 (S + 1626) I1 m1)) ∧ (∀ a k, a < 116 → I1 a k = I a k) ∧ (∀ a, a ≤ 116 → m1 a = m a) ∧ (∀ k, 1 ≤ k → k ≤ 6 → I1 116 k = true) := by
  apply Exists.intro
  apply Exists.intro
  refine ⟨fun S => ?_, ?_, ?_, ?_⟩
  · skip
    refine mz_cl_vc 60 (fun _ => false) [some (mz_r 1 0 116)] rfl ?_
    simp only [vcS0, vcS1, vcS2, vcS3, vcS4, vcS5, vcS6, vc_n0, vc_lk, vc_pop, vc_rc, vc_tsw, vc_fr, vc_ar, vc_tb, mz_nx, List.set_cons_zero, List.set_cons_succ, Nat.reduceAdd, Nat.reduceBEq, Nat.reduceEqDiff, Nat.reduceLeDiff, Nat.reduceLT, Nat.reduceMul, Int.reduceToNat, Bool.false_eq_true, Bool.or_self, Bool.or_true, Bool.true_or, Bool.or_false, reduceIte, Option.toList_some, Option.toList_none, List.nil_append, List.cons_append, List.length_cons, List.length_nil, true_and, and_true, Int.cast_ofNat_Int, Int.reduceEq, Int.reduceLT, Int.reduceLE, Nat.zero_le, and_self, or_true, true_or, cdS_60, kdv, nfv, iu_at, if_at, and_false, false_and, Nat.reduceEqDiff, reduceCtorEq, Int.reduceAdd]
    exact tu rfl (by omega) rfl rfl
  · intro a k ha
    simp (disch := omega) only [iu_o, if_o]
  · intro a ha
    funext j
    simp (disch := omega) only [zr_o]
  · intro k h1 h2
    rcases (show k = 1 ∨ k = 2 ∨ k = 3 ∨ k = 4 ∨ k = 5 ∨ k = 6 by omega) with rfl | rfl | rfl | rfl | rfl | rfl <;> simp [iu_at, if_at]
/-- a world that is made -/
def iWo (I : Nat → Nat → Bool) (u : Nat) : Prop := (∀ k, k < 3 → I u k = true) ∧ iTo I (u + 1) ∧ (∀ k, k < 16 → I (u + 16) k = true) ∧ ∀ k, 1 ≤ k → k ≤ 6 → I (u + 17) k = true
def cWo (m : mz_M) (u : Nat) : Prop := ctN m (u + 1) ∧ (m u 3 = 0 ∧ m u 4 = -1 ∧ m (u + 17) 0 = 0) ∧ ∀ c, c < 16 → ∀ j, m (u + 24 + c) j = if j = 0 then (c : Int) else 0
theorem iWo_congr {I J : Nat → Nat → Bool} {u : Nat} (e : ∀ a k, u ≤ a → a < u + 40 → J a k = I a k) (h : iWo I u) : iWo J u :=
  ⟨fun k hk => by rw [e _ _ (by omega) (by omega)]; exact h.1 k hk, iTo_congr (fun a k h1 h2 => e a k (by omega) (by omega)) h.2.1, fun k hk => by rw [e _ _ (by omega) (by omega)]; exact h.2.2.1 k hk, fun k h1 h2 => by rw [e _ _ (by omega) (by omega)]; exact h.2.2.2 k h1 h2⟩
theorem cWo_congr {m m' : mz_M} {u : Nat} (e : ∀ a, u ≤ a → a < u + 40 → m' a = m a) (h : cWo m u) : cWo m' u := by
  obtain ⟨h1, h2, h3⟩ := h
  refine ⟨ctN_congr (fun a q1 q2 => e a (by omega) (by omega)) h1, ?_, fun c hc => ?_⟩
  · rw [e u (by omega) (by omega), e (u + 17) (by omega) (by omega)]; exact h2
  · rw [e _ (by omega) (by omega)]; exact h3 c hc
theorem k016 {k : Nat} (h : k < 16) : k = 0 ∨ k = 1 ∨ k = 2 ∨ k = 3 ∨ k = 4 ∨ k = 5 ∨ k = 6 ∨ k = 7 ∨ k = 8 ∨ k = 9 ∨ k = 10 ∨ k = 11 ∨ k = 12 ∨ k = 13 ∨ k = 14 ∨ k = 15 := by omega
theorem k16 {k : Nat} (h1 : 1 ≤ k) (h2 : k ≤ 6) : k = 1 ∨ k = 2 ∨ k = 3 ∨ k = 4 ∨ k = 5 ∨ k = 6 := by omega
set_option maxRecDepth 40000 in
set_option maxHeartbeats 8000000 in
theorem gi_X6_init_18 (m : mz_M) (I : Nat → Nat → Bool) (h3 : m 18 3 = 0) : ∃ (I1 : Nat → Nat → Bool) (m1 : mz_M), (∀ S, mz_cl 266 [mz_r 6 0 18] (gS 19 S I m) none (gS 58 (S + 2172) I1 m1)) ∧ (∀ a k, a < 18 → I1 a k = I a k) ∧ (∀ a, a < 18 → m1 a = m a) ∧ iWo I1 18 ∧ cWo m1 18 := by
  obtain ⟨Ia, ma, ra, fa, ga, ta, ca⟩ := gi_X4_init_19 (mz_zr m 19) (mz_if I 19)
  obtain ⟨Ib, mb, rb, fb, gb, tb⟩ := gi_X1_init_35 (mz_zr (mz_zr ma 34) 35) (mz_if (mz_iu (mz_if (mz_iu Ia 18 0) 34) 18 1) 35)
  have e : ∀ a k, a < 35 → Ib a k = mz_iu (mz_if (mz_iu Ia 18 0) 34) 18 1 a k := fun a k ha => by rw [fb a k ha, if_o (by omega)]
  have e1 : Ib 18 1 = true := by rw [e _ _ (by omega)]; simp [iu_at]
  apply Exists.intro
  apply Exists.intro
  refine ⟨fun S => ?_, ?_, ?_, ?_, ?_⟩
  · skip
    refine mz_cl_vc 400 (fun _ => false) [some (mz_r 6 0 18), none] rfl ?_
    simp only [vcS0, vcS1, vcS2, vcS3, vcS4, vcS5, vcS6, vc_n0, vc_lk, vc_pop, vc_rc, vc_tsw, vc_fr, vc_ar, vc_tb, mz_nx, List.set_cons_zero, List.set_cons_succ, Nat.reduceAdd, Nat.reduceBEq, Nat.reduceEqDiff, Nat.reduceLeDiff, Nat.reduceLT, Nat.reduceMul, Int.reduceToNat, Bool.false_eq_true, Bool.or_self, Bool.or_true, Bool.true_or, Bool.or_false, reduceIte, Option.toList_some, Option.toList_none, List.nil_append, List.cons_append, List.length_cons, List.length_nil, true_and, and_true, Int.cast_ofNat_Int, Int.reduceEq, Int.reduceLT, Int.reduceLE, Nat.zero_le, and_self, or_true, true_or, cdS_266, kdv, nfv, iu_at, if_at, and_false, false_and, Nat.reduceEqDiff, reduceCtorEq, Int.reduceAdd]
    refine ⟨_, _, ra _, ?_⟩
    simp only [vcS0, vcS1, vcS2, vcS3, vcS4, vcS5, vcS6, vc_n0, vc_lk, vc_pop, vc_rc, vc_tsw, vc_fr, vc_ar, vc_tb, mz_nx, List.set_cons_zero, List.set_cons_succ, Nat.reduceAdd, Nat.reduceBEq, Nat.reduceEqDiff, Nat.reduceLeDiff, Nat.reduceLT, Nat.reduceMul, Int.reduceToNat, Bool.false_eq_true, Bool.or_self, Bool.or_true, Bool.true_or, Bool.or_false, reduceIte, Option.toList_some, Option.toList_none, List.nil_append, List.cons_append, List.length_cons, List.length_nil, true_and, and_true, Int.cast_ofNat_Int, Int.reduceEq, Int.reduceLT, Int.reduceLE, Nat.zero_le, and_self, or_true, true_or, cdS_266, kdv, nfv, iu_at, if_at, and_false, false_and, Nat.reduceEqDiff, reduceCtorEq, Int.reduceAdd]
    refine ⟨_, _, rb _, ?_⟩
    simp only [vcS0, vcS1, vcS2, vcS3, vcS4, vcS5, vcS6, vc_n0, vc_lk, vc_pop, vc_rc, vc_tsw, vc_fr, vc_ar, vc_tb, mz_nx, List.set_cons_zero, List.set_cons_succ, Nat.reduceAdd, Nat.reduceBEq, Nat.reduceEqDiff, Nat.reduceLeDiff, Nat.reduceLT, Nat.reduceMul, Int.reduceToNat, Bool.false_eq_true, Bool.or_self, Bool.or_true, Bool.true_or, Bool.or_false, reduceIte, Option.toList_some, Option.toList_none, List.nil_append, List.cons_append, List.length_cons, List.length_nil, true_and, and_true, Int.cast_ofNat_Int, Int.reduceEq, Int.reduceLT, Int.reduceLE, Nat.zero_le, and_self, or_true, true_or, cdS_266, kdv, nfv, iu_at, if_at, and_false, false_and, Nat.reduceEqDiff, reduceCtorEq, Int.reduceAdd, e1]
    refine ⟨_, _, gi_X0_init (c := 42) (n := 0) _, ?_⟩
    simp only [vcS0, vcS1, vcS2, vcS3, vcS4, vcS5, vcS6, vc_n0, vc_lk, vc_pop, vc_rc, vc_tsw, vc_fr, vc_ar, vc_tb, mz_nx, List.set_cons_zero, List.set_cons_succ, Nat.reduceAdd, Nat.reduceBEq, Nat.reduceEqDiff, Nat.reduceLeDiff, Nat.reduceLT, Nat.reduceMul, Int.reduceToNat, Bool.false_eq_true, Bool.or_self, Bool.or_true, Bool.true_or, Bool.or_false, reduceIte, Option.toList_some, Option.toList_none, List.nil_append, List.cons_append, List.length_cons, List.length_nil, true_and, and_true, Int.cast_ofNat_Int, Int.reduceEq, Int.reduceLT, Int.reduceLE, Nat.zero_le, and_self, or_true, true_or, cdS_266, kdv, nfv, iu_at, if_at, and_false, false_and, Nat.reduceEqDiff, reduceCtorEq, Int.reduceAdd, e1]
    refine ⟨(by unfold mz_w; omega), _, _, gi_X0_init (c := 43) (n := 1) _, ?_⟩
    simp only [vcS0, vcS1, vcS2, vcS3, vcS4, vcS5, vcS6, vc_n0, vc_lk, vc_pop, vc_rc, vc_tsw, vc_fr, vc_ar, vc_tb, mz_nx, List.set_cons_zero, List.set_cons_succ, Nat.reduceAdd, Nat.reduceBEq, Nat.reduceEqDiff, Nat.reduceLeDiff, Nat.reduceLT, Nat.reduceMul, Int.reduceToNat, Bool.false_eq_true, Bool.or_self, Bool.or_true, Bool.true_or, Bool.or_false, reduceIte, Option.toList_some, Option.toList_none, List.nil_append, List.cons_append, List.length_cons, List.length_nil, true_and, and_true, Int.cast_ofNat_Int, Int.reduceEq, Int.reduceLT, Int.reduceLE, Nat.zero_le, and_self, or_true, true_or, cdS_266, kdv, nfv, iu_at, if_at, and_false, false_and, Nat.reduceEqDiff, reduceCtorEq, Int.reduceAdd, e1]
    refine ⟨(by unfold mz_w; omega), _, _, gi_X0_init (c := 44) (n := 2) _, ?_⟩
    simp only [vcS0, vcS1, vcS2, vcS3, vcS4, vcS5, vcS6, vc_n0, vc_lk, vc_pop, vc_rc, vc_tsw, vc_fr, vc_ar, vc_tb, mz_nx, List.set_cons_zero, List.set_cons_succ, Nat.reduceAdd, Nat.reduceBEq, Nat.reduceEqDiff, Nat.reduceLeDiff, Nat.reduceLT, Nat.reduceMul, Int.reduceToNat, Bool.false_eq_true, Bool.or_self, Bool.or_true, Bool.true_or, Bool.or_false, reduceIte, Option.toList_some, Option.toList_none, List.nil_append, List.cons_append, List.length_cons, List.length_nil, true_and, and_true, Int.cast_ofNat_Int, Int.reduceEq, Int.reduceLT, Int.reduceLE, Nat.zero_le, and_self, or_true, true_or, cdS_266, kdv, nfv, iu_at, if_at, and_false, false_and, Nat.reduceEqDiff, reduceCtorEq, Int.reduceAdd, e1]
    refine ⟨(by unfold mz_w; omega), _, _, gi_X0_init (c := 45) (n := 3) _, ?_⟩
    simp only [vcS0, vcS1, vcS2, vcS3, vcS4, vcS5, vcS6, vc_n0, vc_lk, vc_pop, vc_rc, vc_tsw, vc_fr, vc_ar, vc_tb, mz_nx, List.set_cons_zero, List.set_cons_succ, Nat.reduceAdd, Nat.reduceBEq, Nat.reduceEqDiff, Nat.reduceLeDiff, Nat.reduceLT, Nat.reduceMul, Int.reduceToNat, Bool.false_eq_true, Bool.or_self, Bool.or_true, Bool.true_or, Bool.or_false, reduceIte, Option.toList_some, Option.toList_none, List.nil_append, List.cons_append, List.length_cons, List.length_nil, true_and, and_true, Int.cast_ofNat_Int, Int.reduceEq, Int.reduceLT, Int.reduceLE, Nat.zero_le, and_self, or_true, true_or, cdS_266, kdv, nfv, iu_at, if_at, and_false, false_and, Nat.reduceEqDiff, reduceCtorEq, Int.reduceAdd, e1]
    refine ⟨(by unfold mz_w; omega), _, _, gi_X0_init (c := 46) (n := 4) _, ?_⟩
    simp only [vcS0, vcS1, vcS2, vcS3, vcS4, vcS5, vcS6, vc_n0, vc_lk, vc_pop, vc_rc, vc_tsw, vc_fr, vc_ar, vc_tb, mz_nx, List.set_cons_zero, List.set_cons_succ, Nat.reduceAdd, Nat.reduceBEq, Nat.reduceEqDiff, Nat.reduceLeDiff, Nat.reduceLT, Nat.reduceMul, Int.reduceToNat, Bool.false_eq_true, Bool.or_self, Bool.or_true, Bool.true_or, Bool.or_false, reduceIte, Option.toList_some, Option.toList_none, List.nil_append, List.cons_append, List.length_cons, List.length_nil, true_and, and_true, Int.cast_ofNat_Int, Int.reduceEq, Int.reduceLT, Int.reduceLE, Nat.zero_le, and_self, or_true, true_or, cdS_266, kdv, nfv, iu_at, if_at, and_false, false_and, Nat.reduceEqDiff, reduceCtorEq, Int.reduceAdd, e1]
    refine ⟨(by unfold mz_w; omega), _, _, gi_X0_init (c := 47) (n := 5) _, ?_⟩
    simp only [vcS0, vcS1, vcS2, vcS3, vcS4, vcS5, vcS6, vc_n0, vc_lk, vc_pop, vc_rc, vc_tsw, vc_fr, vc_ar, vc_tb, mz_nx, List.set_cons_zero, List.set_cons_succ, Nat.reduceAdd, Nat.reduceBEq, Nat.reduceEqDiff, Nat.reduceLeDiff, Nat.reduceLT, Nat.reduceMul, Int.reduceToNat, Bool.false_eq_true, Bool.or_self, Bool.or_true, Bool.true_or, Bool.or_false, reduceIte, Option.toList_some, Option.toList_none, List.nil_append, List.cons_append, List.length_cons, List.length_nil, true_and, and_true, Int.cast_ofNat_Int, Int.reduceEq, Int.reduceLT, Int.reduceLE, Nat.zero_le, and_self, or_true, true_or, cdS_266, kdv, nfv, iu_at, if_at, and_false, false_and, Nat.reduceEqDiff, reduceCtorEq, Int.reduceAdd, e1]
    refine ⟨(by unfold mz_w; omega), _, _, gi_X0_init (c := 48) (n := 6) _, ?_⟩
    simp only [vcS0, vcS1, vcS2, vcS3, vcS4, vcS5, vcS6, vc_n0, vc_lk, vc_pop, vc_rc, vc_tsw, vc_fr, vc_ar, vc_tb, mz_nx, List.set_cons_zero, List.set_cons_succ, Nat.reduceAdd, Nat.reduceBEq, Nat.reduceEqDiff, Nat.reduceLeDiff, Nat.reduceLT, Nat.reduceMul, Int.reduceToNat, Bool.false_eq_true, Bool.or_self, Bool.or_true, Bool.true_or, Bool.or_false, reduceIte, Option.toList_some, Option.toList_none, List.nil_append, List.cons_append, List.length_cons, List.length_nil, true_and, and_true, Int.cast_ofNat_Int, Int.reduceEq, Int.reduceLT, Int.reduceLE, Nat.zero_le, and_self, or_true, true_or, cdS_266, kdv, nfv, iu_at, if_at, and_false, false_and, Nat.reduceEqDiff, reduceCtorEq, Int.reduceAdd, e1]
    refine ⟨(by unfold mz_w; omega), _, _, gi_X0_init (c := 49) (n := 7) _, ?_⟩
    simp only [vcS0, vcS1, vcS2, vcS3, vcS4, vcS5, vcS6, vc_n0, vc_lk, vc_pop, vc_rc, vc_tsw, vc_fr, vc_ar, vc_tb, mz_nx, List.set_cons_zero, List.set_cons_succ, Nat.reduceAdd, Nat.reduceBEq, Nat.reduceEqDiff, Nat.reduceLeDiff, Nat.reduceLT, Nat.reduceMul, Int.reduceToNat, Bool.false_eq_true, Bool.or_self, Bool.or_true, Bool.true_or, Bool.or_false, reduceIte, Option.toList_some, Option.toList_none, List.nil_append, List.cons_append, List.length_cons, List.length_nil, true_and, and_true, Int.cast_ofNat_Int, Int.reduceEq, Int.reduceLT, Int.reduceLE, Nat.zero_le, and_self, or_true, true_or, cdS_266, kdv, nfv, iu_at, if_at, and_false, false_and, Nat.reduceEqDiff, reduceCtorEq, Int.reduceAdd, e1]
    refine ⟨(by unfold mz_w; omega), _, _, gi_X0_init (c := 50) (n := 8) _, ?_⟩
    simp only [vcS0, vcS1, vcS2, vcS3, vcS4, vcS5, vcS6, vc_n0, vc_lk, vc_pop, vc_rc, vc_tsw, vc_fr, vc_ar, vc_tb, mz_nx, List.set_cons_zero, List.set_cons_succ, Nat.reduceAdd, Nat.reduceBEq, Nat.reduceEqDiff, Nat.reduceLeDiff, Nat.reduceLT, Nat.reduceMul, Int.reduceToNat, Bool.false_eq_true, Bool.or_self, Bool.or_true, Bool.true_or, Bool.or_false, reduceIte, Option.toList_some, Option.toList_none, List.nil_append, List.cons_append, List.length_cons, List.length_nil, true_and, and_true, Int.cast_ofNat_Int, Int.reduceEq, Int.reduceLT, Int.reduceLE, Nat.zero_le, and_self, or_true, true_or, cdS_266, kdv, nfv, iu_at, if_at, and_false, false_and, Nat.reduceEqDiff, reduceCtorEq, Int.reduceAdd, e1]
    refine ⟨(by unfold mz_w; omega), _, _, gi_X0_init (c := 51) (n := 9) _, ?_⟩
    simp only [vcS0, vcS1, vcS2, vcS3, vcS4, vcS5, vcS6, vc_n0, vc_lk, vc_pop, vc_rc, vc_tsw, vc_fr, vc_ar, vc_tb, mz_nx, List.set_cons_zero, List.set_cons_succ, Nat.reduceAdd, Nat.reduceBEq, Nat.reduceEqDiff, Nat.reduceLeDiff, Nat.reduceLT, Nat.reduceMul, Int.reduceToNat, Bool.false_eq_true, Bool.or_self, Bool.or_true, Bool.true_or, Bool.or_false, reduceIte, Option.toList_some, Option.toList_none, List.nil_append, List.cons_append, List.length_cons, List.length_nil, true_and, and_true, Int.cast_ofNat_Int, Int.reduceEq, Int.reduceLT, Int.reduceLE, Nat.zero_le, and_self, or_true, true_or, cdS_266, kdv, nfv, iu_at, if_at, and_false, false_and, Nat.reduceEqDiff, reduceCtorEq, Int.reduceAdd, e1]
    refine ⟨(by unfold mz_w; omega), _, _, gi_X0_init (c := 52) (n := 10) _, ?_⟩
    simp only [vcS0, vcS1, vcS2, vcS3, vcS4, vcS5, vcS6, vc_n0, vc_lk, vc_pop, vc_rc, vc_tsw, vc_fr, vc_ar, vc_tb, mz_nx, List.set_cons_zero, List.set_cons_succ, Nat.reduceAdd, Nat.reduceBEq, Nat.reduceEqDiff, Nat.reduceLeDiff, Nat.reduceLT, Nat.reduceMul, Int.reduceToNat, Bool.false_eq_true, Bool.or_self, Bool.or_true, Bool.true_or, Bool.or_false, reduceIte, Option.toList_some, Option.toList_none, List.nil_append, List.cons_append, List.length_cons, List.length_nil, true_and, and_true, Int.cast_ofNat_Int, Int.reduceEq, Int.reduceLT, Int.reduceLE, Nat.zero_le, and_self, or_true, true_or, cdS_266, kdv, nfv, iu_at, if_at, and_false, false_and, Nat.reduceEqDiff, reduceCtorEq, Int.reduceAdd, e1]
    refine ⟨(by unfold mz_w; omega), _, _, gi_X0_init (c := 53) (n := 11) _, ?_⟩
    simp only [vcS0, vcS1, vcS2, vcS3, vcS4, vcS5, vcS6, vc_n0, vc_lk, vc_pop, vc_rc, vc_tsw, vc_fr, vc_ar, vc_tb, mz_nx, List.set_cons_zero, List.set_cons_succ, Nat.reduceAdd, Nat.reduceBEq, Nat.reduceEqDiff, Nat.reduceLeDiff, Nat.reduceLT, Nat.reduceMul, Int.reduceToNat, Bool.false_eq_true, Bool.or_self, Bool.or_true, Bool.true_or, Bool.or_false, reduceIte, Option.toList_some, Option.toList_none, List.nil_append, List.cons_append, List.length_cons, List.length_nil, true_and, and_true, Int.cast_ofNat_Int, Int.reduceEq, Int.reduceLT, Int.reduceLE, Nat.zero_le, and_self, or_true, true_or, cdS_266, kdv, nfv, iu_at, if_at, and_false, false_and, Nat.reduceEqDiff, reduceCtorEq, Int.reduceAdd, e1]
    refine ⟨(by unfold mz_w; omega), _, _, gi_X0_init (c := 54) (n := 12) _, ?_⟩
    simp only [vcS0, vcS1, vcS2, vcS3, vcS4, vcS5, vcS6, vc_n0, vc_lk, vc_pop, vc_rc, vc_tsw, vc_fr, vc_ar, vc_tb, mz_nx, List.set_cons_zero, List.set_cons_succ, Nat.reduceAdd, Nat.reduceBEq, Nat.reduceEqDiff, Nat.reduceLeDiff, Nat.reduceLT, Nat.reduceMul, Int.reduceToNat, Bool.false_eq_true, Bool.or_self, Bool.or_true, Bool.true_or, Bool.or_false, reduceIte, Option.toList_some, Option.toList_none, List.nil_append, List.cons_append, List.length_cons, List.length_nil, true_and, and_true, Int.cast_ofNat_Int, Int.reduceEq, Int.reduceLT, Int.reduceLE, Nat.zero_le, and_self, or_true, true_or, cdS_266, kdv, nfv, iu_at, if_at, and_false, false_and, Nat.reduceEqDiff, reduceCtorEq, Int.reduceAdd, e1]
    refine ⟨(by unfold mz_w; omega), _, _, gi_X0_init (c := 55) (n := 13) _, ?_⟩
    simp only [vcS0, vcS1, vcS2, vcS3, vcS4, vcS5, vcS6, vc_n0, vc_lk, vc_pop, vc_rc, vc_tsw, vc_fr, vc_ar, vc_tb, mz_nx, List.set_cons_zero, List.set_cons_succ, Nat.reduceAdd, Nat.reduceBEq, Nat.reduceEqDiff, Nat.reduceLeDiff, Nat.reduceLT, Nat.reduceMul, Int.reduceToNat, Bool.false_eq_true, Bool.or_self, Bool.or_true, Bool.true_or, Bool.or_false, reduceIte, Option.toList_some, Option.toList_none, List.nil_append, List.cons_append, List.length_cons, List.length_nil, true_and, and_true, Int.cast_ofNat_Int, Int.reduceEq, Int.reduceLT, Int.reduceLE, Nat.zero_le, and_self, or_true, true_or, cdS_266, kdv, nfv, iu_at, if_at, and_false, false_and, Nat.reduceEqDiff, reduceCtorEq, Int.reduceAdd, e1]
    refine ⟨(by unfold mz_w; omega), _, _, gi_X0_init (c := 56) (n := 14) _, ?_⟩
    simp only [vcS0, vcS1, vcS2, vcS3, vcS4, vcS5, vcS6, vc_n0, vc_lk, vc_pop, vc_rc, vc_tsw, vc_fr, vc_ar, vc_tb, mz_nx, List.set_cons_zero, List.set_cons_succ, Nat.reduceAdd, Nat.reduceBEq, Nat.reduceEqDiff, Nat.reduceLeDiff, Nat.reduceLT, Nat.reduceMul, Int.reduceToNat, Bool.false_eq_true, Bool.or_self, Bool.or_true, Bool.true_or, Bool.or_false, reduceIte, Option.toList_some, Option.toList_none, List.nil_append, List.cons_append, List.length_cons, List.length_nil, true_and, and_true, Int.cast_ofNat_Int, Int.reduceEq, Int.reduceLT, Int.reduceLE, Nat.zero_le, and_self, or_true, true_or, cdS_266, kdv, nfv, iu_at, if_at, and_false, false_and, Nat.reduceEqDiff, reduceCtorEq, Int.reduceAdd, e1]
    refine ⟨(by unfold mz_w; omega), _, _, gi_X0_init (c := 57) (n := 15) _, ?_⟩
    simp only [vcS0, vcS1, vcS2, vcS3, vcS4, vcS5, vcS6, vc_n0, vc_lk, vc_pop, vc_rc, vc_tsw, vc_fr, vc_ar, vc_tb, mz_nx, List.set_cons_zero, List.set_cons_succ, Nat.reduceAdd, Nat.reduceBEq, Nat.reduceEqDiff, Nat.reduceLeDiff, Nat.reduceLT, Nat.reduceMul, Int.reduceToNat, Bool.false_eq_true, Bool.or_self, Bool.or_true, Bool.true_or, Bool.or_false, reduceIte, Option.toList_some, Option.toList_none, List.nil_append, List.cons_append, List.length_cons, List.length_nil, true_and, and_true, Int.cast_ofNat_Int, Int.reduceEq, Int.reduceLT, Int.reduceLE, Nat.zero_le, and_self, or_true, true_or, cdS_266, kdv, nfv, iu_at, if_at, and_false, false_and, Nat.reduceEqDiff, reduceCtorEq, Int.reduceAdd, e1]
    refine ⟨(by unfold mz_w; omega), ?_⟩
    exact tu rfl (by omega) rfl rfl
  · intro a k ha
    simp (disch := omega) only [iu_o, if_o]
    rw [e a k (by omega)]
    simp (disch := omega) only [iu_o, if_o]
    rw [fa a k (by omega), if_o (by omega)]
  · intro a ha
    funext j
    simp (disch := omega) only [up_o, zr_o]
    rw [gb a (by omega)]
    simp (disch := omega) only [zr_o]
    rw [ga a (by omega), zr_o (by omega)]
  · refine ⟨fun k hk => ?_, iTo_congr (I := Ia) (fun a k h1 h2 => ?_) ta, fun k hk => ?_, fun k h1 h2 => ?_⟩
    · rcases (show k = 0 ∨ k = 1 ∨ k = 2 by omega) with rfl | rfl | rfl
      · simp [iu_at, if_at, e 18 0 (by omega)]
      · simp [iu_at, if_at, e 18 1 (by omega)]
      · simp [iu_at, if_at]
    · simp (disch := omega) only [iu_o, if_o]
      rw [e a k (by omega)]
      simp (disch := omega) only [iu_o, if_o]
    · rcases k016 hk with rfl | rfl | rfl | rfl | rfl | rfl | rfl | rfl | rfl | rfl | rfl | rfl | rfl | rfl | rfl | rfl <;> simp [iu_at, if_at]
    · simp (disch := omega) only [iu_o, if_o]
      exact tb k h1 h2
  · refine ⟨ctN_congr (m := ma) (fun a h1 h2 => ?_) ca, ⟨?_, ?_, ?_⟩, fun c hc j => ?_⟩
    · funext j
      simp (disch := omega) only [up_o, zr_o]
      rw [gb a (by omega)]
      simp (disch := omega) only [zr_o]
    · simp (disch := omega) only [up_o, up_k, zr_o]
      rw [gb 18 (by omega)]
      simp (disch := omega) only [zr_o]
      rw [ga 18 (by omega), zr_o (by omega)]
      exact h3
    · simp (disch := omega) only [up_o, up_s, zr_o]
    · simp (disch := omega) only [up_o, up_s, zr_o]
      rw [gb 35 (by omega), zr_at, if_pos rfl]
    · rcases k016 hc with rfl | rfl | rfl | rfl | rfl | rfl | rfl | rfl | rfl | rfl | rfl | rfl | rfl | rfl | rfl | rfl <;> simp [up_at, zr_at]
set_option maxRecDepth 40000 in
set_option maxHeartbeats 8000000 in
theorem gi_X6_init_59 (m : mz_M) (I : Nat → Nat → Bool) (h3 : m 59 3 = 0) : ∃ (I1 : Nat → Nat → Bool) (m1 : mz_M), (∀ S, mz_cl 266 [mz_r 6 0 59] (gS 60 S I m) none (gS 99 (S + 2172) I1 m1)) ∧ (∀ a k, a < 59 → I1 a k = I a k) ∧ (∀ a, a < 59 → m1 a = m a) ∧ iWo I1 59 ∧ cWo m1 59 := by
  obtain ⟨Ia, ma, ra, fa, ga, ta, ca⟩ := gi_X4_init_60 (mz_zr m 60) (mz_if I 60)
  obtain ⟨Ib, mb, rb, fb, gb, tb⟩ := gi_X1_init_76 (mz_zr (mz_zr ma 75) 76) (mz_if (mz_iu (mz_if (mz_iu Ia 59 0) 75) 59 1) 76)
  have e : ∀ a k, a < 76 → Ib a k = mz_iu (mz_if (mz_iu Ia 59 0) 75) 59 1 a k := fun a k ha => by rw [fb a k ha, if_o (by omega)]
  have e1 : Ib 59 1 = true := by rw [e _ _ (by omega)]; simp [iu_at]
  apply Exists.intro
  apply Exists.intro
  refine ⟨fun S => ?_, ?_, ?_, ?_, ?_⟩
  · skip
    refine mz_cl_vc 400 (fun _ => false) [some (mz_r 6 0 59), none] rfl ?_
    simp only [vcS0, vcS1, vcS2, vcS3, vcS4, vcS5, vcS6, vc_n0, vc_lk, vc_pop, vc_rc, vc_tsw, vc_fr, vc_ar, vc_tb, mz_nx, List.set_cons_zero, List.set_cons_succ, Nat.reduceAdd, Nat.reduceBEq, Nat.reduceEqDiff, Nat.reduceLeDiff, Nat.reduceLT, Nat.reduceMul, Int.reduceToNat, Bool.false_eq_true, Bool.or_self, Bool.or_true, Bool.true_or, Bool.or_false, reduceIte, Option.toList_some, Option.toList_none, List.nil_append, List.cons_append, List.length_cons, List.length_nil, true_and, and_true, Int.cast_ofNat_Int, Int.reduceEq, Int.reduceLT, Int.reduceLE, Nat.zero_le, and_self, or_true, true_or, cdS_266, kdv, nfv, iu_at, if_at, and_false, false_and, Nat.reduceEqDiff, reduceCtorEq, Int.reduceAdd]
    refine ⟨_, _, ra _, ?_⟩
    simp only [vcS0, vcS1, vcS2, vcS3, vcS4, vcS5, vcS6, vc_n0, vc_lk, vc_pop, vc_rc, vc_tsw, vc_fr, vc_ar, vc_tb, mz_nx, List.set_cons_zero, List.set_cons_succ, Nat.reduceAdd, Nat.reduceBEq, Nat.reduceEqDiff, Nat.reduceLeDiff, Nat.reduceLT, Nat.reduceMul, Int.reduceToNat, Bool.false_eq_true, Bool.or_self, Bool.or_true, Bool.true_or, Bool.or_false, reduceIte, Option.toList_some, Option.toList_none, List.nil_append, List.cons_append, List.length_cons, List.length_nil, true_and, and_true, Int.cast_ofNat_Int, Int.reduceEq, Int.reduceLT, Int.reduceLE, Nat.zero_le, and_self, or_true, true_or, cdS_266, kdv, nfv, iu_at, if_at, and_false, false_and, Nat.reduceEqDiff, reduceCtorEq, Int.reduceAdd]
    refine ⟨_, _, rb _, ?_⟩
    simp only [vcS0, vcS1, vcS2, vcS3, vcS4, vcS5, vcS6, vc_n0, vc_lk, vc_pop, vc_rc, vc_tsw, vc_fr, vc_ar, vc_tb, mz_nx, List.set_cons_zero, List.set_cons_succ, Nat.reduceAdd, Nat.reduceBEq, Nat.reduceEqDiff, Nat.reduceLeDiff, Nat.reduceLT, Nat.reduceMul, Int.reduceToNat, Bool.false_eq_true, Bool.or_self, Bool.or_true, Bool.true_or, Bool.or_false, reduceIte, Option.toList_some, Option.toList_none, List.nil_append, List.cons_append, List.length_cons, List.length_nil, true_and, and_true, Int.cast_ofNat_Int, Int.reduceEq, Int.reduceLT, Int.reduceLE, Nat.zero_le, and_self, or_true, true_or, cdS_266, kdv, nfv, iu_at, if_at, and_false, false_and, Nat.reduceEqDiff, reduceCtorEq, Int.reduceAdd, e1]
    refine ⟨_, _, gi_X0_init (c := 83) (n := 0) _, ?_⟩
    simp only [vcS0, vcS1, vcS2, vcS3, vcS4, vcS5, vcS6, vc_n0, vc_lk, vc_pop, vc_rc, vc_tsw, vc_fr, vc_ar, vc_tb, mz_nx, List.set_cons_zero, List.set_cons_succ, Nat.reduceAdd, Nat.reduceBEq, Nat.reduceEqDiff, Nat.reduceLeDiff, Nat.reduceLT, Nat.reduceMul, Int.reduceToNat, Bool.false_eq_true, Bool.or_self, Bool.or_true, Bool.true_or, Bool.or_false, reduceIte, Option.toList_some, Option.toList_none, List.nil_append, List.cons_append, List.length_cons, List.length_nil, true_and, and_true, Int.cast_ofNat_Int, Int.reduceEq, Int.reduceLT, Int.reduceLE, Nat.zero_le, and_self, or_true, true_or, cdS_266, kdv, nfv, iu_at, if_at, and_false, false_and, Nat.reduceEqDiff, reduceCtorEq, Int.reduceAdd, e1]
    refine ⟨(by unfold mz_w; omega), _, _, gi_X0_init (c := 84) (n := 1) _, ?_⟩
    simp only [vcS0, vcS1, vcS2, vcS3, vcS4, vcS5, vcS6, vc_n0, vc_lk, vc_pop, vc_rc, vc_tsw, vc_fr, vc_ar, vc_tb, mz_nx, List.set_cons_zero, List.set_cons_succ, Nat.reduceAdd, Nat.reduceBEq, Nat.reduceEqDiff, Nat.reduceLeDiff, Nat.reduceLT, Nat.reduceMul, Int.reduceToNat, Bool.false_eq_true, Bool.or_self, Bool.or_true, Bool.true_or, Bool.or_false, reduceIte, Option.toList_some, Option.toList_none, List.nil_append, List.cons_append, List.length_cons, List.length_nil, true_and, and_true, Int.cast_ofNat_Int, Int.reduceEq, Int.reduceLT, Int.reduceLE, Nat.zero_le, and_self, or_true, true_or, cdS_266, kdv, nfv, iu_at, if_at, and_false, false_and, Nat.reduceEqDiff, reduceCtorEq, Int.reduceAdd, e1]
    refine ⟨(by unfold mz_w; omega), _, _, gi_X0_init (c := 85) (n := 2) _, ?_⟩
    simp only [vcS0, vcS1, vcS2, vcS3, vcS4, vcS5, vcS6, vc_n0, vc_lk, vc_pop, vc_rc, vc_tsw, vc_fr, vc_ar, vc_tb, mz_nx, List.set_cons_zero, List.set_cons_succ, Nat.reduceAdd, Nat.reduceBEq, Nat.reduceEqDiff, Nat.reduceLeDiff, Nat.reduceLT, Nat.reduceMul, Int.reduceToNat, Bool.false_eq_true, Bool.or_self, Bool.or_true, Bool.true_or, Bool.or_false, reduceIte, Option.toList_some, Option.toList_none, List.nil_append, List.cons_append, List.length_cons, List.length_nil, true_and, and_true, Int.cast_ofNat_Int, Int.reduceEq, Int.reduceLT, Int.reduceLE, Nat.zero_le, and_self, or_true, true_or, cdS_266, kdv, nfv, iu_at, if_at, and_false, false_and, Nat.reduceEqDiff, reduceCtorEq, Int.reduceAdd, e1]
    refine ⟨(by unfold mz_w; omega), _, _, gi_X0_init (c := 86) (n := 3) _, ?_⟩
    simp only [vcS0, vcS1, vcS2, vcS3, vcS4, vcS5, vcS6, vc_n0, vc_lk, vc_pop, vc_rc, vc_tsw, vc_fr, vc_ar, vc_tb, mz_nx, List.set_cons_zero, List.set_cons_succ, Nat.reduceAdd, Nat.reduceBEq, Nat.reduceEqDiff, Nat.reduceLeDiff, Nat.reduceLT, Nat.reduceMul, Int.reduceToNat, Bool.false_eq_true, Bool.or_self, Bool.or_true, Bool.true_or, Bool.or_false, reduceIte, Option.toList_some, Option.toList_none, List.nil_append, List.cons_append, List.length_cons, List.length_nil, true_and, and_true, Int.cast_ofNat_Int, Int.reduceEq, Int.reduceLT, Int.reduceLE, Nat.zero_le, and_self, or_true, true_or, cdS_266, kdv, nfv, iu_at, if_at, and_false, false_and, Nat.reduceEqDiff, reduceCtorEq, Int.reduceAdd, e1]
    refine ⟨(by unfold mz_w; omega), _, _, gi_X0_init (c := 87) (n := 4) _, ?_⟩
    simp only [vcS0, vcS1, vcS2, vcS3, vcS4, vcS5, vcS6, vc_n0, vc_lk, vc_pop, vc_rc, vc_tsw, vc_fr, vc_ar, vc_tb, mz_nx, List.set_cons_zero, List.set_cons_succ, Nat.reduceAdd, Nat.reduceBEq, Nat.reduceEqDiff, Nat.reduceLeDiff, Nat.reduceLT, Nat.reduceMul, Int.reduceToNat, Bool.false_eq_true, Bool.or_self, Bool.or_true, Bool.true_or, Bool.or_false, reduceIte, Option.toList_some, Option.toList_none, List.nil_append, List.cons_append, List.length_cons, List.length_nil, true_and, and_true, Int.cast_ofNat_Int, Int.reduceEq, Int.reduceLT, Int.reduceLE, Nat.zero_le, and_self, or_true, true_or, cdS_266, kdv, nfv, iu_at, if_at, and_false, false_and, Nat.reduceEqDiff, reduceCtorEq, Int.reduceAdd, e1]
    refine ⟨(by unfold mz_w; omega), _, _, gi_X0_init (c := 88) (n := 5) _, ?_⟩
    simp only [vcS0, vcS1, vcS2, vcS3, vcS4, vcS5, vcS6, vc_n0, vc_lk, vc_pop, vc_rc, vc_tsw, vc_fr, vc_ar, vc_tb, mz_nx, List.set_cons_zero, List.set_cons_succ, Nat.reduceAdd, Nat.reduceBEq, Nat.reduceEqDiff, Nat.reduceLeDiff, Nat.reduceLT, Nat.reduceMul, Int.reduceToNat, Bool.false_eq_true, Bool.or_self, Bool.or_true, Bool.true_or, Bool.or_false, reduceIte, Option.toList_some, Option.toList_none, List.nil_append, List.cons_append, List.length_cons, List.length_nil, true_and, and_true, Int.cast_ofNat_Int, Int.reduceEq, Int.reduceLT, Int.reduceLE, Nat.zero_le, and_self, or_true, true_or, cdS_266, kdv, nfv, iu_at, if_at, and_false, false_and, Nat.reduceEqDiff, reduceCtorEq, Int.reduceAdd, e1]
    refine ⟨(by unfold mz_w; omega), _, _, gi_X0_init (c := 89) (n := 6) _, ?_⟩
    simp only [vcS0, vcS1, vcS2, vcS3, vcS4, vcS5, vcS6, vc_n0, vc_lk, vc_pop, vc_rc, vc_tsw, vc_fr, vc_ar, vc_tb, mz_nx, List.set_cons_zero, List.set_cons_succ, Nat.reduceAdd, Nat.reduceBEq, Nat.reduceEqDiff, Nat.reduceLeDiff, Nat.reduceLT, Nat.reduceMul, Int.reduceToNat, Bool.false_eq_true, Bool.or_self, Bool.or_true, Bool.true_or, Bool.or_false, reduceIte, Option.toList_some, Option.toList_none, List.nil_append, List.cons_append, List.length_cons, List.length_nil, true_and, and_true, Int.cast_ofNat_Int, Int.reduceEq, Int.reduceLT, Int.reduceLE, Nat.zero_le, and_self, or_true, true_or, cdS_266, kdv, nfv, iu_at, if_at, and_false, false_and, Nat.reduceEqDiff, reduceCtorEq, Int.reduceAdd, e1]
    refine ⟨(by unfold mz_w; omega), _, _, gi_X0_init (c := 90) (n := 7) _, ?_⟩
    simp only [vcS0, vcS1, vcS2, vcS3, vcS4, vcS5, vcS6, vc_n0, vc_lk, vc_pop, vc_rc, vc_tsw, vc_fr, vc_ar, vc_tb, mz_nx, List.set_cons_zero, List.set_cons_succ, Nat.reduceAdd, Nat.reduceBEq, Nat.reduceEqDiff, Nat.reduceLeDiff, Nat.reduceLT, Nat.reduceMul, Int.reduceToNat, Bool.false_eq_true, Bool.or_self, Bool.or_true, Bool.true_or, Bool.or_false, reduceIte, Option.toList_some, Option.toList_none, List.nil_append, List.cons_append, List.length_cons, List.length_nil, true_and, and_true, Int.cast_ofNat_Int, Int.reduceEq, Int.reduceLT, Int.reduceLE, Nat.zero_le, and_self, or_true, true_or, cdS_266, kdv, nfv, iu_at, if_at, and_false, false_and, Nat.reduceEqDiff, reduceCtorEq, Int.reduceAdd, e1]
    refine ⟨(by unfold mz_w; omega), _, _, gi_X0_init (c := 91) (n := 8) _, ?_⟩
    simp only [vcS0, vcS1, vcS2, vcS3, vcS4, vcS5, vcS6, vc_n0, vc_lk, vc_pop, vc_rc, vc_tsw, vc_fr, vc_ar, vc_tb, mz_nx, List.set_cons_zero, List.set_cons_succ, Nat.reduceAdd, Nat.reduceBEq, Nat.reduceEqDiff, Nat.reduceLeDiff, Nat.reduceLT, Nat.reduceMul, Int.reduceToNat, Bool.false_eq_true, Bool.or_self, Bool.or_true, Bool.true_or, Bool.or_false, reduceIte, Option.toList_some, Option.toList_none, List.nil_append, List.cons_append, List.length_cons, List.length_nil, true_and, and_true, Int.cast_ofNat_Int, Int.reduceEq, Int.reduceLT, Int.reduceLE, Nat.zero_le, and_self, or_true, true_or, cdS_266, kdv, nfv, iu_at, if_at, and_false, false_and, Nat.reduceEqDiff, reduceCtorEq, Int.reduceAdd, e1]
    refine ⟨(by unfold mz_w; omega), _, _, gi_X0_init (c := 92) (n := 9) _, ?_⟩
    simp only [vcS0, vcS1, vcS2, vcS3, vcS4, vcS5, vcS6, vc_n0, vc_lk, vc_pop, vc_rc, vc_tsw, vc_fr, vc_ar, vc_tb, mz_nx, List.set_cons_zero, List.set_cons_succ, Nat.reduceAdd, Nat.reduceBEq, Nat.reduceEqDiff, Nat.reduceLeDiff, Nat.reduceLT, Nat.reduceMul, Int.reduceToNat, Bool.false_eq_true, Bool.or_self, Bool.or_true, Bool.true_or, Bool.or_false, reduceIte, Option.toList_some, Option.toList_none, List.nil_append, List.cons_append, List.length_cons, List.length_nil, true_and, and_true, Int.cast_ofNat_Int, Int.reduceEq, Int.reduceLT, Int.reduceLE, Nat.zero_le, and_self, or_true, true_or, cdS_266, kdv, nfv, iu_at, if_at, and_false, false_and, Nat.reduceEqDiff, reduceCtorEq, Int.reduceAdd, e1]
    refine ⟨(by unfold mz_w; omega), _, _, gi_X0_init (c := 93) (n := 10) _, ?_⟩
    simp only [vcS0, vcS1, vcS2, vcS3, vcS4, vcS5, vcS6, vc_n0, vc_lk, vc_pop, vc_rc, vc_tsw, vc_fr, vc_ar, vc_tb, mz_nx, List.set_cons_zero, List.set_cons_succ, Nat.reduceAdd, Nat.reduceBEq, Nat.reduceEqDiff, Nat.reduceLeDiff, Nat.reduceLT, Nat.reduceMul, Int.reduceToNat, Bool.false_eq_true, Bool.or_self, Bool.or_true, Bool.true_or, Bool.or_false, reduceIte, Option.toList_some, Option.toList_none, List.nil_append, List.cons_append, List.length_cons, List.length_nil, true_and, and_true, Int.cast_ofNat_Int, Int.reduceEq, Int.reduceLT, Int.reduceLE, Nat.zero_le, and_self, or_true, true_or, cdS_266, kdv, nfv, iu_at, if_at, and_false, false_and, Nat.reduceEqDiff, reduceCtorEq, Int.reduceAdd, e1]
    refine ⟨(by unfold mz_w; omega), _, _, gi_X0_init (c := 94) (n := 11) _, ?_⟩
    simp only [vcS0, vcS1, vcS2, vcS3, vcS4, vcS5, vcS6, vc_n0, vc_lk, vc_pop, vc_rc, vc_tsw, vc_fr, vc_ar, vc_tb, mz_nx, List.set_cons_zero, List.set_cons_succ, Nat.reduceAdd, Nat.reduceBEq, Nat.reduceEqDiff, Nat.reduceLeDiff, Nat.reduceLT, Nat.reduceMul, Int.reduceToNat, Bool.false_eq_true, Bool.or_self, Bool.or_true, Bool.true_or, Bool.or_false, reduceIte, Option.toList_some, Option.toList_none, List.nil_append, List.cons_append, List.length_cons, List.length_nil, true_and, and_true, Int.cast_ofNat_Int, Int.reduceEq, Int.reduceLT, Int.reduceLE, Nat.zero_le, and_self, or_true, true_or, cdS_266, kdv, nfv, iu_at, if_at, and_false, false_and, Nat.reduceEqDiff, reduceCtorEq, Int.reduceAdd, e1]
    refine ⟨(by unfold mz_w; omega), _, _, gi_X0_init (c := 95) (n := 12) _, ?_⟩
    simp only [vcS0, vcS1, vcS2, vcS3, vcS4, vcS5, vcS6, vc_n0, vc_lk, vc_pop, vc_rc, vc_tsw, vc_fr, vc_ar, vc_tb, mz_nx, List.set_cons_zero, List.set_cons_succ, Nat.reduceAdd, Nat.reduceBEq, Nat.reduceEqDiff, Nat.reduceLeDiff, Nat.reduceLT, Nat.reduceMul, Int.reduceToNat, Bool.false_eq_true, Bool.or_self, Bool.or_true, Bool.true_or, Bool.or_false, reduceIte, Option.toList_some, Option.toList_none, List.nil_append, List.cons_append, List.length_cons, List.length_nil, true_and, and_true, Int.cast_ofNat_Int, Int.reduceEq, Int.reduceLT, Int.reduceLE, Nat.zero_le, and_self, or_true, true_or, cdS_266, kdv, nfv, iu_at, if_at, and_false, false_and, Nat.reduceEqDiff, reduceCtorEq, Int.reduceAdd, e1]
    refine ⟨(by unfold mz_w; omega), _, _, gi_X0_init (c := 96) (n := 13) _, ?_⟩
    simp only [vcS0, vcS1, vcS2, vcS3, vcS4, vcS5, vcS6, vc_n0, vc_lk, vc_pop, vc_rc, vc_tsw, vc_fr, vc_ar, vc_tb, mz_nx, List.set_cons_zero, List.set_cons_succ, Nat.reduceAdd, Nat.reduceBEq, Nat.reduceEqDiff, Nat.reduceLeDiff, Nat.reduceLT, Nat.reduceMul, Int.reduceToNat, Bool.false_eq_true, Bool.or_self, Bool.or_true, Bool.true_or, Bool.or_false, reduceIte, Option.toList_some, Option.toList_none, List.nil_append, List.cons_append, List.length_cons, List.length_nil, true_and, and_true, Int.cast_ofNat_Int, Int.reduceEq, Int.reduceLT, Int.reduceLE, Nat.zero_le, and_self, or_true, true_or, cdS_266, kdv, nfv, iu_at, if_at, and_false, false_and, Nat.reduceEqDiff, reduceCtorEq, Int.reduceAdd, e1]
    refine ⟨(by unfold mz_w; omega), _, _, gi_X0_init (c := 97) (n := 14) _, ?_⟩
    simp only [vcS0, vcS1, vcS2, vcS3, vcS4, vcS5, vcS6, vc_n0, vc_lk, vc_pop, vc_rc, vc_tsw, vc_fr, vc_ar, vc_tb, mz_nx, List.set_cons_zero, List.set_cons_succ, Nat.reduceAdd, Nat.reduceBEq, Nat.reduceEqDiff, Nat.reduceLeDiff, Nat.reduceLT, Nat.reduceMul, Int.reduceToNat, Bool.false_eq_true, Bool.or_self, Bool.or_true, Bool.true_or, Bool.or_false, reduceIte, Option.toList_some, Option.toList_none, List.nil_append, List.cons_append, List.length_cons, List.length_nil, true_and, and_true, Int.cast_ofNat_Int, Int.reduceEq, Int.reduceLT, Int.reduceLE, Nat.zero_le, and_self, or_true, true_or, cdS_266, kdv, nfv, iu_at, if_at, and_false, false_and, Nat.reduceEqDiff, reduceCtorEq, Int.reduceAdd, e1]
    refine ⟨(by unfold mz_w; omega), _, _, gi_X0_init (c := 98) (n := 15) _, ?_⟩
    simp only [vcS0, vcS1, vcS2, vcS3, vcS4, vcS5, vcS6, vc_n0, vc_lk, vc_pop, vc_rc, vc_tsw, vc_fr, vc_ar, vc_tb, mz_nx, List.set_cons_zero, List.set_cons_succ, Nat.reduceAdd, Nat.reduceBEq, Nat.reduceEqDiff, Nat.reduceLeDiff, Nat.reduceLT, Nat.reduceMul, Int.reduceToNat, Bool.false_eq_true, Bool.or_self, Bool.or_true, Bool.true_or, Bool.or_false, reduceIte, Option.toList_some, Option.toList_none, List.nil_append, List.cons_append, List.length_cons, List.length_nil, true_and, and_true, Int.cast_ofNat_Int, Int.reduceEq, Int.reduceLT, Int.reduceLE, Nat.zero_le, and_self, or_true, true_or, cdS_266, kdv, nfv, iu_at, if_at, and_false, false_and, Nat.reduceEqDiff, reduceCtorEq, Int.reduceAdd, e1]
    refine ⟨(by unfold mz_w; omega), ?_⟩
    exact tu rfl (by omega) rfl rfl
  · intro a k ha
    simp (disch := omega) only [iu_o, if_o]
    rw [e a k (by omega)]
    simp (disch := omega) only [iu_o, if_o]
    rw [fa a k (by omega), if_o (by omega)]
  · intro a ha
    funext j
    simp (disch := omega) only [up_o, zr_o]
    rw [gb a (by omega)]
    simp (disch := omega) only [zr_o]
    rw [ga a (by omega), zr_o (by omega)]
  · refine ⟨fun k hk => ?_, iTo_congr (I := Ia) (fun a k h1 h2 => ?_) ta, fun k hk => ?_, fun k h1 h2 => ?_⟩
    · rcases (show k = 0 ∨ k = 1 ∨ k = 2 by omega) with rfl | rfl | rfl
      · simp [iu_at, if_at, e 59 0 (by omega)]
      · simp [iu_at, if_at, e 59 1 (by omega)]
      · simp [iu_at, if_at]
    · simp (disch := omega) only [iu_o, if_o]
      rw [e a k (by omega)]
      simp (disch := omega) only [iu_o, if_o]
    · rcases k016 hk with rfl | rfl | rfl | rfl | rfl | rfl | rfl | rfl | rfl | rfl | rfl | rfl | rfl | rfl | rfl | rfl <;> simp [iu_at, if_at]
    · simp (disch := omega) only [iu_o, if_o]
      exact tb k h1 h2
  · refine ⟨ctN_congr (m := ma) (fun a h1 h2 => ?_) ca, ⟨?_, ?_, ?_⟩, fun c hc j => ?_⟩
    · funext j
      simp (disch := omega) only [up_o, zr_o]
      rw [gb a (by omega)]
      simp (disch := omega) only [zr_o]
    · simp (disch := omega) only [up_o, up_k, zr_o]
      rw [gb 59 (by omega)]
      simp (disch := omega) only [zr_o]
      rw [ga 59 (by omega), zr_o (by omega)]
      exact h3
    · simp (disch := omega) only [up_o, up_s, zr_o]
    · simp (disch := omega) only [up_o, up_s, zr_o]
      rw [gb 76 (by omega), zr_at, if_pos rfl]
    · rcases k016 hc with rfl | rfl | rfl | rfl | rfl | rfl | rfl | rfl | rfl | rfl | rfl | rfl | rfl | rfl | rfl | rfl <;> simp [up_at, zr_at]
set_option maxRecDepth 40000 in
set_option maxHeartbeats 8000000 in
theorem gi_X6_init_99 (m : mz_M) (I : Nat → Nat → Bool) (h3 : m 99 3 = 0) : ∃ (I1 : Nat → Nat → Bool) (m1 : mz_M), (∀ S, mz_cl 266 [mz_r 6 0 99] (gS 100 S I m) none (gS 139 (S + 2172) I1 m1)) ∧ (∀ a k, a < 99 → I1 a k = I a k) ∧ (∀ a, a < 99 → m1 a = m a) ∧ iWo I1 99 ∧ cWo m1 99 := by
  obtain ⟨Ia, ma, ra, fa, ga, ta, ca⟩ := gi_X4_init_100 (mz_zr m 100) (mz_if I 100)
  obtain ⟨Ib, mb, rb, fb, gb, tb⟩ := gi_X1_init_116 (mz_zr (mz_zr ma 115) 116) (mz_if (mz_iu (mz_if (mz_iu Ia 99 0) 115) 99 1) 116)
  have e : ∀ a k, a < 116 → Ib a k = mz_iu (mz_if (mz_iu Ia 99 0) 115) 99 1 a k := fun a k ha => by rw [fb a k ha, if_o (by omega)]
  have e1 : Ib 99 1 = true := by rw [e _ _ (by omega)]; simp [iu_at]
  apply Exists.intro
  apply Exists.intro
  refine ⟨fun S => ?_, ?_, ?_, ?_, ?_⟩
  · skip
    refine mz_cl_vc 400 (fun _ => false) [some (mz_r 6 0 99), none] rfl ?_
    simp only [vcS0, vcS1, vcS2, vcS3, vcS4, vcS5, vcS6, vc_n0, vc_lk, vc_pop, vc_rc, vc_tsw, vc_fr, vc_ar, vc_tb, mz_nx, List.set_cons_zero, List.set_cons_succ, Nat.reduceAdd, Nat.reduceBEq, Nat.reduceEqDiff, Nat.reduceLeDiff, Nat.reduceLT, Nat.reduceMul, Int.reduceToNat, Bool.false_eq_true, Bool.or_self, Bool.or_true, Bool.true_or, Bool.or_false, reduceIte, Option.toList_some, Option.toList_none, List.nil_append, List.cons_append, List.length_cons, List.length_nil, true_and, and_true, Int.cast_ofNat_Int, Int.reduceEq, Int.reduceLT, Int.reduceLE, Nat.zero_le, and_self, or_true, true_or, cdS_266, kdv, nfv, iu_at, if_at, and_false, false_and, Nat.reduceEqDiff, reduceCtorEq, Int.reduceAdd]
    refine ⟨_, _, ra _, ?_⟩
    simp only [vcS0, vcS1, vcS2, vcS3, vcS4, vcS5, vcS6, vc_n0, vc_lk, vc_pop, vc_rc, vc_tsw, vc_fr, vc_ar, vc_tb, mz_nx, List.set_cons_zero, List.set_cons_succ, Nat.reduceAdd, Nat.reduceBEq, Nat.reduceEqDiff, Nat.reduceLeDiff, Nat.reduceLT, Nat.reduceMul, Int.reduceToNat, Bool.false_eq_true, Bool.or_self, Bool.or_true, Bool.true_or, Bool.or_false, reduceIte, Option.toList_some, Option.toList_none, List.nil_append, List.cons_append, List.length_cons, List.length_nil, true_and, and_true, Int.cast_ofNat_Int, Int.reduceEq, Int.reduceLT, Int.reduceLE, Nat.zero_le, and_self, or_true, true_or, cdS_266, kdv, nfv, iu_at, if_at, and_false, false_and, Nat.reduceEqDiff, reduceCtorEq, Int.reduceAdd]
    refine ⟨_, _, rb _, ?_⟩
    simp only [vcS0, vcS1, vcS2, vcS3, vcS4, vcS5, vcS6, vc_n0, vc_lk, vc_pop, vc_rc, vc_tsw, vc_fr, vc_ar, vc_tb, mz_nx, List.set_cons_zero, List.set_cons_succ, Nat.reduceAdd, Nat.reduceBEq, Nat.reduceEqDiff, Nat.reduceLeDiff, Nat.reduceLT, Nat.reduceMul, Int.reduceToNat, Bool.false_eq_true, Bool.or_self, Bool.or_true, Bool.true_or, Bool.or_false, reduceIte, Option.toList_some, Option.toList_none, List.nil_append, List.cons_append, List.length_cons, List.length_nil, true_and, and_true, Int.cast_ofNat_Int, Int.reduceEq, Int.reduceLT, Int.reduceLE, Nat.zero_le, and_self, or_true, true_or, cdS_266, kdv, nfv, iu_at, if_at, and_false, false_and, Nat.reduceEqDiff, reduceCtorEq, Int.reduceAdd, e1]
    refine ⟨_, _, gi_X0_init (c := 123) (n := 0) _, ?_⟩
    simp only [vcS0, vcS1, vcS2, vcS3, vcS4, vcS5, vcS6, vc_n0, vc_lk, vc_pop, vc_rc, vc_tsw, vc_fr, vc_ar, vc_tb, mz_nx, List.set_cons_zero, List.set_cons_succ, Nat.reduceAdd, Nat.reduceBEq, Nat.reduceEqDiff, Nat.reduceLeDiff, Nat.reduceLT, Nat.reduceMul, Int.reduceToNat, Bool.false_eq_true, Bool.or_self, Bool.or_true, Bool.true_or, Bool.or_false, reduceIte, Option.toList_some, Option.toList_none, List.nil_append, List.cons_append, List.length_cons, List.length_nil, true_and, and_true, Int.cast_ofNat_Int, Int.reduceEq, Int.reduceLT, Int.reduceLE, Nat.zero_le, and_self, or_true, true_or, cdS_266, kdv, nfv, iu_at, if_at, and_false, false_and, Nat.reduceEqDiff, reduceCtorEq, Int.reduceAdd, e1]
    refine ⟨(by unfold mz_w; omega), _, _, gi_X0_init (c := 124) (n := 1) _, ?_⟩
    simp only [vcS0, vcS1, vcS2, vcS3, vcS4, vcS5, vcS6, vc_n0, vc_lk, vc_pop, vc_rc, vc_tsw, vc_fr, vc_ar, vc_tb, mz_nx, List.set_cons_zero, List.set_cons_succ, Nat.reduceAdd, Nat.reduceBEq, Nat.reduceEqDiff, Nat.reduceLeDiff, Nat.reduceLT, Nat.reduceMul, Int.reduceToNat, Bool.false_eq_true, Bool.or_self, Bool.or_true, Bool.true_or, Bool.or_false, reduceIte, Option.toList_some, Option.toList_none, List.nil_append, List.cons_append, List.length_cons, List.length_nil, true_and, and_true, Int.cast_ofNat_Int, Int.reduceEq, Int.reduceLT, Int.reduceLE, Nat.zero_le, and_self, or_true, true_or, cdS_266, kdv, nfv, iu_at, if_at, and_false, false_and, Nat.reduceEqDiff, reduceCtorEq, Int.reduceAdd, e1]
    refine ⟨(by unfold mz_w; omega), _, _, gi_X0_init (c := 125) (n := 2) _, ?_⟩
    simp only [vcS0, vcS1, vcS2, vcS3, vcS4, vcS5, vcS6, vc_n0, vc_lk, vc_pop, vc_rc, vc_tsw, vc_fr, vc_ar, vc_tb, mz_nx, List.set_cons_zero, List.set_cons_succ, Nat.reduceAdd, Nat.reduceBEq, Nat.reduceEqDiff, Nat.reduceLeDiff, Nat.reduceLT, Nat.reduceMul, Int.reduceToNat, Bool.false_eq_true, Bool.or_self, Bool.or_true, Bool.true_or, Bool.or_false, reduceIte, Option.toList_some, Option.toList_none, List.nil_append, List.cons_append, List.length_cons, List.length_nil, true_and, and_true, Int.cast_ofNat_Int, Int.reduceEq, Int.reduceLT, Int.reduceLE, Nat.zero_le, and_self, or_true, true_or, cdS_266, kdv, nfv, iu_at, if_at, and_false, false_and, Nat.reduceEqDiff, reduceCtorEq, Int.reduceAdd, e1]
    refine ⟨(by unfold mz_w; omega), _, _, gi_X0_init (c := 126) (n := 3) _, ?_⟩
    simp only [vcS0, vcS1, vcS2, vcS3, vcS4, vcS5, vcS6, vc_n0, vc_lk, vc_pop, vc_rc, vc_tsw, vc_fr, vc_ar, vc_tb, mz_nx, List.set_cons_zero, List.set_cons_succ, Nat.reduceAdd, Nat.reduceBEq, Nat.reduceEqDiff, Nat.reduceLeDiff, Nat.reduceLT, Nat.reduceMul, Int.reduceToNat, Bool.false_eq_true, Bool.or_self, Bool.or_true, Bool.true_or, Bool.or_false, reduceIte, Option.toList_some, Option.toList_none, List.nil_append, List.cons_append, List.length_cons, List.length_nil, true_and, and_true, Int.cast_ofNat_Int, Int.reduceEq, Int.reduceLT, Int.reduceLE, Nat.zero_le, and_self, or_true, true_or, cdS_266, kdv, nfv, iu_at, if_at, and_false, false_and, Nat.reduceEqDiff, reduceCtorEq, Int.reduceAdd, e1]
    refine ⟨(by unfold mz_w; omega), _, _, gi_X0_init (c := 127) (n := 4) _, ?_⟩
    simp only [vcS0, vcS1, vcS2, vcS3, vcS4, vcS5, vcS6, vc_n0, vc_lk, vc_pop, vc_rc, vc_tsw, vc_fr, vc_ar, vc_tb, mz_nx, List.set_cons_zero, List.set_cons_succ, Nat.reduceAdd, Nat.reduceBEq, Nat.reduceEqDiff, Nat.reduceLeDiff, Nat.reduceLT, Nat.reduceMul, Int.reduceToNat, Bool.false_eq_true, Bool.or_self, Bool.or_true, Bool.true_or, Bool.or_false, reduceIte, Option.toList_some, Option.toList_none, List.nil_append, List.cons_append, List.length_cons, List.length_nil, true_and, and_true, Int.cast_ofNat_Int, Int.reduceEq, Int.reduceLT, Int.reduceLE, Nat.zero_le, and_self, or_true, true_or, cdS_266, kdv, nfv, iu_at, if_at, and_false, false_and, Nat.reduceEqDiff, reduceCtorEq, Int.reduceAdd, e1]
    refine ⟨(by unfold mz_w; omega), _, _, gi_X0_init (c := 128) (n := 5) _, ?_⟩
    simp only [vcS0, vcS1, vcS2, vcS3, vcS4, vcS5, vcS6, vc_n0, vc_lk, vc_pop, vc_rc, vc_tsw, vc_fr, vc_ar, vc_tb, mz_nx, List.set_cons_zero, List.set_cons_succ, Nat.reduceAdd, Nat.reduceBEq, Nat.reduceEqDiff, Nat.reduceLeDiff, Nat.reduceLT, Nat.reduceMul, Int.reduceToNat, Bool.false_eq_true, Bool.or_self, Bool.or_true, Bool.true_or, Bool.or_false, reduceIte, Option.toList_some, Option.toList_none, List.nil_append, List.cons_append, List.length_cons, List.length_nil, true_and, and_true, Int.cast_ofNat_Int, Int.reduceEq, Int.reduceLT, Int.reduceLE, Nat.zero_le, and_self, or_true, true_or, cdS_266, kdv, nfv, iu_at, if_at, and_false, false_and, Nat.reduceEqDiff, reduceCtorEq, Int.reduceAdd, e1]
    refine ⟨(by unfold mz_w; omega), _, _, gi_X0_init (c := 129) (n := 6) _, ?_⟩
    simp only [vcS0, vcS1, vcS2, vcS3, vcS4, vcS5, vcS6, vc_n0, vc_lk, vc_pop, vc_rc, vc_tsw, vc_fr, vc_ar, vc_tb, mz_nx, List.set_cons_zero, List.set_cons_succ, Nat.reduceAdd, Nat.reduceBEq, Nat.reduceEqDiff, Nat.reduceLeDiff, Nat.reduceLT, Nat.reduceMul, Int.reduceToNat, Bool.false_eq_true, Bool.or_self, Bool.or_true, Bool.true_or, Bool.or_false, reduceIte, Option.toList_some, Option.toList_none, List.nil_append, List.cons_append, List.length_cons, List.length_nil, true_and, and_true, Int.cast_ofNat_Int, Int.reduceEq, Int.reduceLT, Int.reduceLE, Nat.zero_le, and_self, or_true, true_or, cdS_266, kdv, nfv, iu_at, if_at, and_false, false_and, Nat.reduceEqDiff, reduceCtorEq, Int.reduceAdd, e1]
    refine ⟨(by unfold mz_w; omega), _, _, gi_X0_init (c := 130) (n := 7) _, ?_⟩
    simp only [vcS0, vcS1, vcS2, vcS3, vcS4, vcS5, vcS6, vc_n0, vc_lk, vc_pop, vc_rc, vc_tsw, vc_fr, vc_ar, vc_tb, mz_nx, List.set_cons_zero, List.set_cons_succ, Nat.reduceAdd, Nat.reduceBEq, Nat.reduceEqDiff, Nat.reduceLeDiff, Nat.reduceLT, Nat.reduceMul, Int.reduceToNat, Bool.false_eq_true, Bool.or_self, Bool.or_true, Bool.true_or, Bool.or_false, reduceIte, Option.toList_some, Option.toList_none, List.nil_append, List.cons_append, List.length_cons, List.length_nil, true_and, and_true, Int.cast_ofNat_Int, Int.reduceEq, Int.reduceLT, Int.reduceLE, Nat.zero_le, and_self, or_true, true_or, cdS_266, kdv, nfv, iu_at, if_at, and_false, false_and, Nat.reduceEqDiff, reduceCtorEq, Int.reduceAdd, e1]
    refine ⟨(by unfold mz_w; omega), _, _, gi_X0_init (c := 131) (n := 8) _, ?_⟩
    simp only [vcS0, vcS1, vcS2, vcS3, vcS4, vcS5, vcS6, vc_n0, vc_lk, vc_pop, vc_rc, vc_tsw, vc_fr, vc_ar, vc_tb, mz_nx, List.set_cons_zero, List.set_cons_succ, Nat.reduceAdd, Nat.reduceBEq, Nat.reduceEqDiff, Nat.reduceLeDiff, Nat.reduceLT, Nat.reduceMul, Int.reduceToNat, Bool.false_eq_true, Bool.or_self, Bool.or_true, Bool.true_or, Bool.or_false, reduceIte, Option.toList_some, Option.toList_none, List.nil_append, List.cons_append, List.length_cons, List.length_nil, true_and, and_true, Int.cast_ofNat_Int, Int.reduceEq, Int.reduceLT, Int.reduceLE, Nat.zero_le, and_self, or_true, true_or, cdS_266, kdv, nfv, iu_at, if_at, and_false, false_and, Nat.reduceEqDiff, reduceCtorEq, Int.reduceAdd, e1]
    refine ⟨(by unfold mz_w; omega), _, _, gi_X0_init (c := 132) (n := 9) _, ?_⟩
    simp only [vcS0, vcS1, vcS2, vcS3, vcS4, vcS5, vcS6, vc_n0, vc_lk, vc_pop, vc_rc, vc_tsw, vc_fr, vc_ar, vc_tb, mz_nx, List.set_cons_zero, List.set_cons_succ, Nat.reduceAdd, Nat.reduceBEq, Nat.reduceEqDiff, Nat.reduceLeDiff, Nat.reduceLT, Nat.reduceMul, Int.reduceToNat, Bool.false_eq_true, Bool.or_self, Bool.or_true, Bool.true_or, Bool.or_false, reduceIte, Option.toList_some, Option.toList_none, List.nil_append, List.cons_append, List.length_cons, List.length_nil, true_and, and_true, Int.cast_ofNat_Int, Int.reduceEq, Int.reduceLT, Int.reduceLE, Nat.zero_le, and_self, or_true, true_or, cdS_266, kdv, nfv, iu_at, if_at, and_false, false_and, Nat.reduceEqDiff, reduceCtorEq, Int.reduceAdd, e1]
    refine ⟨(by unfold mz_w; omega), _, _, gi_X0_init (c := 133) (n := 10) _, ?_⟩
    simp only [vcS0, vcS1, vcS2, vcS3, vcS4, vcS5, vcS6, vc_n0, vc_lk, vc_pop, vc_rc, vc_tsw, vc_fr, vc_ar, vc_tb, mz_nx, List.set_cons_zero, List.set_cons_succ, Nat.reduceAdd, Nat.reduceBEq, Nat.reduceEqDiff, Nat.reduceLeDiff, Nat.reduceLT, Nat.reduceMul, Int.reduceToNat, Bool.false_eq_true, Bool.or_self, Bool.or_true, Bool.true_or, Bool.or_false, reduceIte, Option.toList_some, Option.toList_none, List.nil_append, List.cons_append, List.length_cons, List.length_nil, true_and, and_true, Int.cast_ofNat_Int, Int.reduceEq, Int.reduceLT, Int.reduceLE, Nat.zero_le, and_self, or_true, true_or, cdS_266, kdv, nfv, iu_at, if_at, and_false, false_and, Nat.reduceEqDiff, reduceCtorEq, Int.reduceAdd, e1]
    refine ⟨(by unfold mz_w; omega), _, _, gi_X0_init (c := 134) (n := 11) _, ?_⟩
    simp only [vcS0, vcS1, vcS2, vcS3, vcS4, vcS5, vcS6, vc_n0, vc_lk, vc_pop, vc_rc, vc_tsw, vc_fr, vc_ar, vc_tb, mz_nx, List.set_cons_zero, List.set_cons_succ, Nat.reduceAdd, Nat.reduceBEq, Nat.reduceEqDiff, Nat.reduceLeDiff, Nat.reduceLT, Nat.reduceMul, Int.reduceToNat, Bool.false_eq_true, Bool.or_self, Bool.or_true, Bool.true_or, Bool.or_false, reduceIte, Option.toList_some, Option.toList_none, List.nil_append, List.cons_append, List.length_cons, List.length_nil, true_and, and_true, Int.cast_ofNat_Int, Int.reduceEq, Int.reduceLT, Int.reduceLE, Nat.zero_le, and_self, or_true, true_or, cdS_266, kdv, nfv, iu_at, if_at, and_false, false_and, Nat.reduceEqDiff, reduceCtorEq, Int.reduceAdd, e1]
    refine ⟨(by unfold mz_w; omega), _, _, gi_X0_init (c := 135) (n := 12) _, ?_⟩
    simp only [vcS0, vcS1, vcS2, vcS3, vcS4, vcS5, vcS6, vc_n0, vc_lk, vc_pop, vc_rc, vc_tsw, vc_fr, vc_ar, vc_tb, mz_nx, List.set_cons_zero, List.set_cons_succ, Nat.reduceAdd, Nat.reduceBEq, Nat.reduceEqDiff, Nat.reduceLeDiff, Nat.reduceLT, Nat.reduceMul, Int.reduceToNat, Bool.false_eq_true, Bool.or_self, Bool.or_true, Bool.true_or, Bool.or_false, reduceIte, Option.toList_some, Option.toList_none, List.nil_append, List.cons_append, List.length_cons, List.length_nil, true_and, and_true, Int.cast_ofNat_Int, Int.reduceEq, Int.reduceLT, Int.reduceLE, Nat.zero_le, and_self, or_true, true_or, cdS_266, kdv, nfv, iu_at, if_at, and_false, false_and, Nat.reduceEqDiff, reduceCtorEq, Int.reduceAdd, e1]
    refine ⟨(by unfold mz_w; omega), _, _, gi_X0_init (c := 136) (n := 13) _, ?_⟩
    simp only [vcS0, vcS1, vcS2, vcS3, vcS4, vcS5, vcS6, vc_n0, vc_lk, vc_pop, vc_rc, vc_tsw, vc_fr, vc_ar, vc_tb, mz_nx, List.set_cons_zero, List.set_cons_succ, Nat.reduceAdd, Nat.reduceBEq, Nat.reduceEqDiff, Nat.reduceLeDiff, Nat.reduceLT, Nat.reduceMul, Int.reduceToNat, Bool.false_eq_true, Bool.or_self, Bool.or_true, Bool.true_or, Bool.or_false, reduceIte, Option.toList_some, Option.toList_none, List.nil_append, List.cons_append, List.length_cons, List.length_nil, true_and, and_true, Int.cast_ofNat_Int, Int.reduceEq, Int.reduceLT, Int.reduceLE, Nat.zero_le, and_self, or_true, true_or, cdS_266, kdv, nfv, iu_at, if_at, and_false, false_and, Nat.reduceEqDiff, reduceCtorEq, Int.reduceAdd, e1]
    refine ⟨(by unfold mz_w; omega), _, _, gi_X0_init (c := 137) (n := 14) _, ?_⟩
    simp only [vcS0, vcS1, vcS2, vcS3, vcS4, vcS5, vcS6, vc_n0, vc_lk, vc_pop, vc_rc, vc_tsw, vc_fr, vc_ar, vc_tb, mz_nx, List.set_cons_zero, List.set_cons_succ, Nat.reduceAdd, Nat.reduceBEq, Nat.reduceEqDiff, Nat.reduceLeDiff, Nat.reduceLT, Nat.reduceMul, Int.reduceToNat, Bool.false_eq_true, Bool.or_self, Bool.or_true, Bool.true_or, Bool.or_false, reduceIte, Option.toList_some, Option.toList_none, List.nil_append, List.cons_append, List.length_cons, List.length_nil, true_and, and_true, Int.cast_ofNat_Int, Int.reduceEq, Int.reduceLT, Int.reduceLE, Nat.zero_le, and_self, or_true, true_or, cdS_266, kdv, nfv, iu_at, if_at, and_false, false_and, Nat.reduceEqDiff, reduceCtorEq, Int.reduceAdd, e1]
    refine ⟨(by unfold mz_w; omega), _, _, gi_X0_init (c := 138) (n := 15) _, ?_⟩
    simp only [vcS0, vcS1, vcS2, vcS3, vcS4, vcS5, vcS6, vc_n0, vc_lk, vc_pop, vc_rc, vc_tsw, vc_fr, vc_ar, vc_tb, mz_nx, List.set_cons_zero, List.set_cons_succ, Nat.reduceAdd, Nat.reduceBEq, Nat.reduceEqDiff, Nat.reduceLeDiff, Nat.reduceLT, Nat.reduceMul, Int.reduceToNat, Bool.false_eq_true, Bool.or_self, Bool.or_true, Bool.true_or, Bool.or_false, reduceIte, Option.toList_some, Option.toList_none, List.nil_append, List.cons_append, List.length_cons, List.length_nil, true_and, and_true, Int.cast_ofNat_Int, Int.reduceEq, Int.reduceLT, Int.reduceLE, Nat.zero_le, and_self, or_true, true_or, cdS_266, kdv, nfv, iu_at, if_at, and_false, false_and, Nat.reduceEqDiff, reduceCtorEq, Int.reduceAdd, e1]
    refine ⟨(by unfold mz_w; omega), ?_⟩
    exact tu rfl (by omega) rfl rfl
  · intro a k ha
    simp (disch := omega) only [iu_o, if_o]
    rw [e a k (by omega)]
    simp (disch := omega) only [iu_o, if_o]
    rw [fa a k (by omega), if_o (by omega)]
  · intro a ha
    funext j
    simp (disch := omega) only [up_o, zr_o]
    rw [gb a (by omega)]
    simp (disch := omega) only [zr_o]
    rw [ga a (by omega), zr_o (by omega)]
  · refine ⟨fun k hk => ?_, iTo_congr (I := Ia) (fun a k h1 h2 => ?_) ta, fun k hk => ?_, fun k h1 h2 => ?_⟩
    · rcases (show k = 0 ∨ k = 1 ∨ k = 2 by omega) with rfl | rfl | rfl
      · simp [iu_at, if_at, e 99 0 (by omega)]
      · simp [iu_at, if_at, e 99 1 (by omega)]
      · simp [iu_at, if_at]
    · simp (disch := omega) only [iu_o, if_o]
      rw [e a k (by omega)]
      simp (disch := omega) only [iu_o, if_o]
    · rcases k016 hk with rfl | rfl | rfl | rfl | rfl | rfl | rfl | rfl | rfl | rfl | rfl | rfl | rfl | rfl | rfl | rfl <;> simp [iu_at, if_at]
    · simp (disch := omega) only [iu_o, if_o]
      exact tb k h1 h2
  · refine ⟨ctN_congr (m := ma) (fun a h1 h2 => ?_) ca, ⟨?_, ?_, ?_⟩, fun c hc j => ?_⟩
    · funext j
      simp (disch := omega) only [up_o, zr_o]
      rw [gb a (by omega)]
      simp (disch := omega) only [zr_o]
    · simp (disch := omega) only [up_o, up_k, zr_o]
      rw [gb 99 (by omega)]
      simp (disch := omega) only [zr_o]
      rw [ga 99 (by omega), zr_o (by omega)]
      exact h3
    · simp (disch := omega) only [up_o, up_s, zr_o]
    · simp (disch := omega) only [up_o, up_s, zr_o]
      rw [gb 116 (by omega), zr_at, if_pos rfl]
    · rcases k016 hc with rfl | rfl | rfl | rfl | rfl | rfl | rfl | rfl | rfl | rfl | rfl | rfl | rfl | rfl | rfl | rfl <;> simp [up_at, zr_at]
set_option maxRecDepth 20000 in
theorem gi_X5_init_1 (m : mz_M) (I : Nat → Nat → Bool) : ∃ (I1 : Nat → Nat → Bool) (m1 : mz_M), (∀ S, mz_cl 263 [mz_r 5 0 1] (gS 2 S I m) none (gS 18 (S + 947) I1 m1)) ∧ (∀ a k, a < 1 → I1 a k = I a k) ∧ (∀ a, a < 2 → m1 a = m a) ∧ (I1 1 0 = true ∧ I1 1 1 = true) ∧ iTo I1 2 ∧ ctN m1 2 := by
  obtain ⟨Ia, ma, ra, fa, ga, ta, ca⟩ := gi_X4_init_2 (mz_zr m 2) (mz_if I 2)
  apply Exists.intro
  apply Exists.intro
  refine ⟨fun S => ?_, ?_, ?_, ?_, ?_, ?_⟩
  · skip
    refine mz_cl_vc 60 (fun _ => false) [some (mz_r 5 0 1)] rfl ?_
    simp only [vcS0, vcS1, vcS2, vcS3, vcS4, vcS5, vcS6, vc_n0, vc_lk, vc_pop, vc_rc, vc_tsw, vc_fr, vc_ar, vc_tb, mz_nx, List.set_cons_zero, List.set_cons_succ, Nat.reduceAdd, Nat.reduceBEq, Nat.reduceEqDiff, Nat.reduceLeDiff, Nat.reduceLT, Nat.reduceMul, Int.reduceToNat, Bool.false_eq_true, Bool.or_self, Bool.or_true, Bool.true_or, Bool.or_false, reduceIte, Option.toList_some, Option.toList_none, List.nil_append, List.cons_append, List.length_cons, List.length_nil, true_and, and_true, Int.cast_ofNat_Int, Int.reduceEq, Int.reduceLT, Int.reduceLE, Nat.zero_le, and_self, or_true, true_or, cdS_263, kdv, nfv, iu_at, if_at, and_false, false_and, Nat.reduceEqDiff, reduceCtorEq, Int.reduceAdd]
    refine ⟨_, _, ra _, ?_⟩
    simp only [vcS0, vcS1, vcS2, vcS3, vcS4, vcS5, vcS6, vc_n0, vc_lk, vc_pop, vc_rc, vc_tsw, vc_fr, vc_ar, vc_tb, mz_nx, List.set_cons_zero, List.set_cons_succ, Nat.reduceAdd, Nat.reduceBEq, Nat.reduceEqDiff, Nat.reduceLeDiff, Nat.reduceLT, Nat.reduceMul, Int.reduceToNat, Bool.false_eq_true, Bool.or_self, Bool.or_true, Bool.true_or, Bool.or_false, reduceIte, Option.toList_some, Option.toList_none, List.nil_append, List.cons_append, List.length_cons, List.length_nil, true_and, and_true, Int.cast_ofNat_Int, Int.reduceEq, Int.reduceLT, Int.reduceLE, Nat.zero_le, and_self, or_true, true_or, cdS_263, kdv, nfv, iu_at, if_at, and_false, false_and, Nat.reduceEqDiff, reduceCtorEq, Int.reduceAdd]
    exact tu rfl (by omega) rfl rfl
  · intro a k ha
    simp (disch := omega) only [iu_o, if_o]
    rw [fa a k (by omega), if_o (by omega)]
  · intro a ha
    funext j
    simp (disch := omega) only [zr_o]
    rw [ga a (by omega), zr_o (by omega)]
  · simp [iu_at, if_at]
  · exact iTo_congr (I := Ia) (fun a k h1 h2 => by simp (disch := omega) only [iu_o, if_o]) ta
  · exact ctN_congr (m := ma) (fun a h1 h2 => by funext j; simp (disch := omega) only [zr_o]) ca
set_option maxRecDepth 20000 in
theorem gi_X3_init_140 (m : mz_M) (I : Nat → Nat → Bool) : ∃ (I1 : Nat → Nat → Bool) (m1 : mz_M), (∀ S, mz_cl 66 [mz_r 3 0 140] (gS 141 S I m) none (gS 150 (S + 954) I1 m1)) ∧ (∀ a k, a < 140 → I1 a k = I a k) ∧ (∀ a, a < 141 → m1 a = m a) ∧ (∀ k, k < 9 → I1 140 k = true) ∧ (∀ j, m1 145 j = 0) ∧ ∀ j, m1 146 j = 0 := by
  apply Exists.intro
  apply Exists.intro
  refine ⟨fun S => ?_, ?_, ?_, ?_, ?_, ?_⟩
  · skip
    refine mz_cl_vc 60 (fun _ => false) [some (mz_r 3 0 140)] rfl ?_
    simp only [vcS0, vcS1, vcS2, vcS3, vcS4, vcS5, vcS6, vc_n0, vc_lk, vc_pop, vc_rc, vc_tsw, vc_fr, vc_ar, vc_tb, mz_nx, List.set_cons_zero, List.set_cons_succ, Nat.reduceAdd, Nat.reduceBEq, Nat.reduceEqDiff, Nat.reduceLeDiff, Nat.reduceLT, Nat.reduceMul, Int.reduceToNat, Bool.false_eq_true, Bool.or_self, Bool.or_true, Bool.true_or, Bool.or_false, reduceIte, Option.toList_some, Option.toList_none, List.nil_append, List.cons_append, List.length_cons, List.length_nil, true_and, and_true, Int.cast_ofNat_Int, Int.reduceEq, Int.reduceLT, Int.reduceLE, Nat.zero_le, and_self, or_true, true_or, cdS_66, kdv, nfv, iu_at, if_at, and_false, false_and, Nat.reduceEqDiff, reduceCtorEq, Int.reduceAdd]
    exact tu rfl (by omega) rfl rfl
  · intro a k ha
    simp (disch := omega) only [iu_o, if_o]
  · intro a ha
    funext j
    simp (disch := omega) only [zr_o]
  · intro k hk
    rcases (show k = 0 ∨ k = 1 ∨ k = 2 ∨ k = 3 ∨ k = 4 ∨ k = 5 ∨ k = 6 ∨ k = 7 ∨ k = 8 by omega) with rfl | rfl | rfl | rfl | rfl | rfl | rfl | rfl | rfl <;> simp [iu_at, if_at]
  · intro j; simp [zr_at]
  · intro j; simp [zr_at]
set_option maxRecDepth 20000 in
theorem gi_X2_init_150 (m : mz_M) (I : Nat → Nat → Bool) : ∃ (I1 : Nat → Nat → Bool) (m1 : mz_M), (∀ S, mz_cl 63 [mz_r 2 0 150] (gS 151 S I m) none (gS 153 (S + 10250) I1 m1)) ∧ (∀ a k, a < 150 → I1 a k = I a k) ∧ (∀ a, a < 151 → m1 a = m a) ∧ (∀ k, k < 2 → I1 150 k = true) ∧ ∀ j, m1 152 j = 0 := by
  apply Exists.intro
  apply Exists.intro
  refine ⟨fun S => ?_, ?_, ?_, ?_, ?_⟩
  · skip
    refine mz_cl_vc 60 (fun _ => false) [some (mz_r 2 0 150)] rfl ?_
    simp only [vcS0, vcS1, vcS2, vcS3, vcS4, vcS5, vcS6, vc_n0, vc_lk, vc_pop, vc_rc, vc_tsw, vc_fr, vc_ar, vc_tb, mz_nx, List.set_cons_zero, List.set_cons_succ, Nat.reduceAdd, Nat.reduceBEq, Nat.reduceEqDiff, Nat.reduceLeDiff, Nat.reduceLT, Nat.reduceMul, Int.reduceToNat, Bool.false_eq_true, Bool.or_self, Bool.or_true, Bool.true_or, Bool.or_false, reduceIte, Option.toList_some, Option.toList_none, List.nil_append, List.cons_append, List.length_cons, List.length_nil, true_and, and_true, Int.cast_ofNat_Int, Int.reduceEq, Int.reduceLT, Int.reduceLE, Nat.zero_le, and_self, or_true, true_or, cdS_63, kdv, nfv, iu_at, if_at, and_false, false_and, Nat.reduceEqDiff, reduceCtorEq, Int.reduceAdd]
    exact tu rfl (by omega) rfl rfl
  · intro a k ha
    simp (disch := omega) only [iu_o, if_o]
  · intro a ha
    funext j
    simp (disch := omega) only [zr_o]
  · intro k hk
    rcases (show k = 0 ∨ k = 1 by omega) with rfl | rfl <;> simp [iu_at, if_at]
  · intro j; simp [zr_at]
set_option maxRecDepth 40000 in
set_option maxHeartbeats 4000000 in
theorem gi_X8_init (m : mz_M) (I : Nat → Nat → Bool) : ∃ (I1 : Nat → Nat → Bool) (m1 : mz_M), (∀ S, mz_cl 281 [mz_r 8 0 0] (gS 1 S I m) none (gS 153 (S + 18712) I1 m1)) ∧ ((∀ k, k < 6 → I1 0 k = true) ∧ (I1 1 0 = true ∧ I1 1 1 = true) ∧ iTo I1 2 ∧ iWo I1 18 ∧ (I1 58 0 = true ∧ I1 58 1 = true) ∧ iWo I1 59 ∧ iWo I1 99 ∧ (∀ k, k < 9 → I1 140 k = true) ∧ ∀ k, k < 2 → I1 150 k = true) ∧
    ((∀ j, m1 1 j = 0) ∧ ctN m1 2 ∧ cWo m1 18 ∧ cWo m1 59 ∧ cWo m1 99 ∧ (∀ j, m1 139 j = 0) ∧ (∀ j, m1 145 j = 0) ∧ (∀ j, m1 146 j = 0) ∧ ∀ j, m1 152 j = 0) := by
  obtain ⟨Ia, ma, ra, fa, ga, pa, ta, ca⟩ := gi_X5_init_1 (mz_zr m 1) (mz_if I 1)
  obtain ⟨Ib, mb, rb, fb, gb, tb, cb⟩ := gi_X6_init_18 (mz_zr ma 18) (mz_if (mz_iu Ia 0 0) 18) (by simp [zr_at])
  obtain ⟨Ic, mc9, rc, fc, gc, tc, cc⟩ := gi_X6_init_59 (mz_zr (mz_zr mb 58) 59) (mz_if (mz_iu (mz_if (mz_iu Ib 0 1) 58) 0 2) 59) (by simp [zr_at])
  have e2 : Ic 0 2 = true := by rw [fc _ _ (by omega)]; simp [iu_at, if_at]
  obtain ⟨Id, md, rd, fd, gd, td, cd⟩ := gi_X6_init_99 (mz_zr mc9 99) (mz_if (mz_iu Ic 58 0) 99) (by simp [zr_at])
  have e3 : Id 0 2 = true := by rw [fd _ _ (by omega)]; simp [iu_at, if_at, e2]
  obtain ⟨Ie, me9, re, fe, ge, te, ce1, ce2⟩ := gi_X3_init_140 (mz_zr (mz_zr md 139) 140) (mz_if (mz_iu (mz_if (mz_iu Id 58 1) 139) 0 3) 140)
  obtain ⟨If, mf, rf9, ff, gf, tf, cf⟩ := gi_X2_init_150 (mz_zr me9 150) (mz_if (mz_iu Ie 0 4) 150)
  have hd : ∀ a k, a < 99 → Id a k = mz_iu Ic 58 0 a k := fun a k h => by rw [fd a k h, if_o (by omega)]
  have hc : ∀ a k, a < 59 → Ic a k = mz_iu (mz_if (mz_iu Ib 0 1) 58) 0 2 a k := fun a k h => by rw [fc a k h, if_o (by omega)]
  have hb : ∀ a k, a < 18 → Ib a k = mz_iu Ia 0 0 a k := fun a k h => by rw [fb a k h, if_o (by omega)]
  have he : ∀ a k, a < 140 → Ie a k = mz_iu (mz_if (mz_iu Id 58 1) 139) 0 3 a k := fun a k h => by rw [fe a k h, if_o (by omega)]
  have hf : ∀ a k, a < 150 → If a k = mz_iu Ie 0 4 a k := fun a k h => by rw [ff a k h, if_o (by omega)]
  have nf : ∀ a, a < 150 → mf a = me9 a := fun a h => by rw [gf a (by omega)]; funext j; exact zr_o (by omega)
  have ne : ∀ a, a < 139 → me9 a = md a := fun a h => by rw [ge a (by omega)]; funext j; simp (disch := omega) only [zr_o]
  have nd : ∀ a, a < 99 → md a = mc9 a := fun a h => by rw [gd a h]; funext j; exact zr_o (by omega)
  have nc : ∀ a, a < 58 → mc9 a = mb a := fun a h => by rw [gc a (by omega)]; funext j; simp (disch := omega) only [zr_o]
  have nb : ∀ a, a < 18 → mb a = ma a := fun a h => by rw [gb a h]; funext j; exact zr_o (by omega)
  apply Exists.intro
  apply Exists.intro
  refine ⟨fun S => ?_, ⟨?_, ?_, ?_, ?_, ?_, ?_, ?_, ?_, ?_⟩, ⟨?_, ?_, ?_, ?_, ?_, ?_, ?_, ?_, ?_⟩⟩
  · skip
    refine mz_cl_vc 200 (fun _ => false) [some (mz_r 8 0 0), none] rfl ?_
    simp only [vcS0, vcS1, vcS2, vcS3, vcS4, vcS5, vcS6, vc_n0, vc_lk, vc_pop, vc_rc, vc_tsw, vc_fr, vc_ar, vc_tb, mz_nx, List.set_cons_zero, List.set_cons_succ, Nat.reduceAdd, Nat.reduceBEq, Nat.reduceEqDiff, Nat.reduceLeDiff, Nat.reduceLT, Nat.reduceMul, Int.reduceToNat, Bool.false_eq_true, Bool.or_self, Bool.or_true, Bool.true_or, Bool.or_false, reduceIte, Option.toList_some, Option.toList_none, List.nil_append, List.cons_append, List.length_cons, List.length_nil, true_and, and_true, Int.cast_ofNat_Int, Int.reduceEq, Int.reduceLT, Int.reduceLE, Nat.zero_le, and_self, or_true, true_or, cdS_281, kdv, nfv, iu_at, if_at, and_false, false_and, Nat.reduceEqDiff, reduceCtorEq, Int.reduceAdd]
    refine ⟨_, _, ra _, ?_⟩
    simp only [vcS0, vcS1, vcS2, vcS3, vcS4, vcS5, vcS6, vc_n0, vc_lk, vc_pop, vc_rc, vc_tsw, vc_fr, vc_ar, vc_tb, mz_nx, List.set_cons_zero, List.set_cons_succ, Nat.reduceAdd, Nat.reduceBEq, Nat.reduceEqDiff, Nat.reduceLeDiff, Nat.reduceLT, Nat.reduceMul, Int.reduceToNat, Bool.false_eq_true, Bool.or_self, Bool.or_true, Bool.true_or, Bool.or_false, reduceIte, Option.toList_some, Option.toList_none, List.nil_append, List.cons_append, List.length_cons, List.length_nil, true_and, and_true, Int.cast_ofNat_Int, Int.reduceEq, Int.reduceLT, Int.reduceLE, Nat.zero_le, and_self, or_true, true_or, cdS_281, kdv, nfv, iu_at, if_at, and_false, false_and, Nat.reduceEqDiff, reduceCtorEq, Int.reduceAdd]
    refine ⟨_, _, rb _, ?_⟩
    simp only [vcS0, vcS1, vcS2, vcS3, vcS4, vcS5, vcS6, vc_n0, vc_lk, vc_pop, vc_rc, vc_tsw, vc_fr, vc_ar, vc_tb, mz_nx, List.set_cons_zero, List.set_cons_succ, Nat.reduceAdd, Nat.reduceBEq, Nat.reduceEqDiff, Nat.reduceLeDiff, Nat.reduceLT, Nat.reduceMul, Int.reduceToNat, Bool.false_eq_true, Bool.or_self, Bool.or_true, Bool.true_or, Bool.or_false, reduceIte, Option.toList_some, Option.toList_none, List.nil_append, List.cons_append, List.length_cons, List.length_nil, true_and, and_true, Int.cast_ofNat_Int, Int.reduceEq, Int.reduceLT, Int.reduceLE, Nat.zero_le, and_self, or_true, true_or, cdS_281, kdv, nfv, iu_at, if_at, and_false, false_and, Nat.reduceEqDiff, reduceCtorEq, Int.reduceAdd]
    refine ⟨_, _, rc _, ?_⟩
    simp only [vcS0, vcS1, vcS2, vcS3, vcS4, vcS5, vcS6, vc_n0, vc_lk, vc_pop, vc_rc, vc_tsw, vc_fr, vc_ar, vc_tb, mz_nx, List.set_cons_zero, List.set_cons_succ, Nat.reduceAdd, Nat.reduceBEq, Nat.reduceEqDiff, Nat.reduceLeDiff, Nat.reduceLT, Nat.reduceMul, Int.reduceToNat, Bool.false_eq_true, Bool.or_self, Bool.or_true, Bool.true_or, Bool.or_false, reduceIte, Option.toList_some, Option.toList_none, List.nil_append, List.cons_append, List.length_cons, List.length_nil, true_and, and_true, Int.cast_ofNat_Int, Int.reduceEq, Int.reduceLT, Int.reduceLE, Nat.zero_le, and_self, or_true, true_or, cdS_281, kdv, nfv, iu_at, if_at, and_false, false_and, Nat.reduceEqDiff, reduceCtorEq, Int.reduceAdd, e2]
    refine ⟨(by unfold mz_w; omega), _, _, rd _, ?_⟩
    simp only [vcS0, vcS1, vcS2, vcS3, vcS4, vcS5, vcS6, vc_n0, vc_lk, vc_pop, vc_rc, vc_tsw, vc_fr, vc_ar, vc_tb, mz_nx, List.set_cons_zero, List.set_cons_succ, Nat.reduceAdd, Nat.reduceBEq, Nat.reduceEqDiff, Nat.reduceLeDiff, Nat.reduceLT, Nat.reduceMul, Int.reduceToNat, Bool.false_eq_true, Bool.or_self, Bool.or_true, Bool.true_or, Bool.or_false, reduceIte, Option.toList_some, Option.toList_none, List.nil_append, List.cons_append, List.length_cons, List.length_nil, true_and, and_true, Int.cast_ofNat_Int, Int.reduceEq, Int.reduceLT, Int.reduceLE, Nat.zero_le, and_self, or_true, true_or, cdS_281, kdv, nfv, iu_at, if_at, and_false, false_and, Nat.reduceEqDiff, reduceCtorEq, Int.reduceAdd, e3]
    refine ⟨(by unfold mz_w; omega), _, _, re _, ?_⟩
    simp only [vcS0, vcS1, vcS2, vcS3, vcS4, vcS5, vcS6, vc_n0, vc_lk, vc_pop, vc_rc, vc_tsw, vc_fr, vc_ar, vc_tb, mz_nx, List.set_cons_zero, List.set_cons_succ, Nat.reduceAdd, Nat.reduceBEq, Nat.reduceEqDiff, Nat.reduceLeDiff, Nat.reduceLT, Nat.reduceMul, Int.reduceToNat, Bool.false_eq_true, Bool.or_self, Bool.or_true, Bool.true_or, Bool.or_false, reduceIte, Option.toList_some, Option.toList_none, List.nil_append, List.cons_append, List.length_cons, List.length_nil, true_and, and_true, Int.cast_ofNat_Int, Int.reduceEq, Int.reduceLT, Int.reduceLE, Nat.zero_le, and_self, or_true, true_or, cdS_281, kdv, nfv, iu_at, if_at, and_false, false_and, Nat.reduceEqDiff, reduceCtorEq, Int.reduceAdd]
    refine ⟨_, _, rf9 _, ?_⟩
    simp only [vcS0, vcS1, vcS2, vcS3, vcS4, vcS5, vcS6, vc_n0, vc_lk, vc_pop, vc_rc, vc_tsw, vc_fr, vc_ar, vc_tb, mz_nx, List.set_cons_zero, List.set_cons_succ, Nat.reduceAdd, Nat.reduceBEq, Nat.reduceEqDiff, Nat.reduceLeDiff, Nat.reduceLT, Nat.reduceMul, Int.reduceToNat, Bool.false_eq_true, Bool.or_self, Bool.or_true, Bool.true_or, Bool.or_false, reduceIte, Option.toList_some, Option.toList_none, List.nil_append, List.cons_append, List.length_cons, List.length_nil, true_and, and_true, Int.cast_ofNat_Int, Int.reduceEq, Int.reduceLT, Int.reduceLE, Nat.zero_le, and_self, or_true, true_or, cdS_281, kdv, nfv, iu_at, if_at, and_false, false_and, Nat.reduceEqDiff, reduceCtorEq, Int.reduceAdd]
    exact tu rfl (by omega) rfl rfl
  · intro k hk
    rcases (show k = 0 ∨ k = 1 ∨ k = 2 ∨ k = 3 ∨ k = 4 ∨ k = 5 by omega) with rfl | rfl | rfl | rfl | rfl | rfl
    · simp (disch := omega) [iu_at, if_at, hf, he, hd, hc, hb]
    · simp (disch := omega) [iu_at, if_at, hf, he, hd, hc, hb]
    · simp (disch := omega) [iu_at, if_at, hf, he, hd, hc, hb]
    · simp (disch := omega) [iu_at, if_at, hf, he, hd, hc, hb]
    · simp (disch := omega) [iu_at, if_at, hf, he, hd, hc, hb]
    · simp (disch := omega) [iu_at, if_at]
  · simp (disch := omega) [iu_at, if_at, hf, he, hd, hc, hb, pa]
  · exact iTo_congr (I := Ia) (fun a k h1 h2 => by simp (disch := omega) only [iu_o, if_o, hf, he, hd, hc, hb]) ta
  · exact iWo_congr (I := Ib) (fun a k h1 h2 => by simp (disch := omega) only [iu_o, if_o, hf, he, hd, hc]) tb
  · simp (disch := omega) [iu_at, if_at, hf, he, hd]
  · exact iWo_congr (I := Ic) (fun a k h1 h2 => by simp (disch := omega) only [iu_o, if_o, hf, he, hd]) tc
  · exact iWo_congr (I := Id) (fun a k h1 h2 => by simp (disch := omega) only [iu_o, if_o, hf, he]) td
  · intro k hk
    rw [iu_o (by omega), hf _ _ (by omega), iu_o (by omega)]
    exact te k hk
  · intro k hk
    rw [iu_o (by omega)]
    exact tf k hk
  · intro j
    rw [nf 1 (by omega), ne 1 (by omega), nd 1 (by omega), nc 1 (by omega), nb 1 (by omega), ga 1 (by omega)]
    simp [zr_at]
  · exact ctN_congr (m := ma) (fun a h1 h2 => by rw [nf a (by omega), ne a (by omega), nd a (by omega), nc a (by omega), nb a (by omega)]) ca
  · exact cWo_congr (m := mb) (fun a h1 h2 => by rw [nf a (by omega), ne a (by omega), nd a (by omega), nc a (by omega)]) cb
  · exact cWo_congr (m := mc9) (fun a h1 h2 => by rw [nf a (by omega), ne a (by omega), nd a (by omega)]) cc
  · exact cWo_congr (m := md) (fun a h1 h2 => by rw [nf a (by omega), ne a (by omega)]) cd
  · intro j
    rw [nf 139 (by omega), ge 139 (by omega)]
    simp [zr_at]
  · intro j; rw [nf 145 (by omega)]; exact ce1 j
  · intro j; rw [nf 146 (by omega)]; exact ce2 j
  · exact cf
def mk9 (m : mz_M) : mz_M := rO m 154 (fnV (fun j => if j < 2430 then bgV 1 j else 0))
set_option maxRecDepth 40000 in
set_option maxHeartbeats 4000000 in
theorem gi_X9_init (m : mz_M) (I : Nat → Nat → Bool) (h0 : ∀ j, m 153 j = 0) : ∃ (I1 : Nat → Nat → Bool) (m1 : mz_M), (∀ S, mz_cl 159 [mz_r 9 0 153] (gS 154 S I m) none (gS 167 (S + 20612) I1 m1)) ∧ (∀ a k, a < 153 → I1 a k = I a k) ∧ (∀ a, a < 153 → m1 a = m a) ∧ (∀ k, k = 0 ∨ k = 1 ∨ k = 2 ∨ k = 3 ∨ k = 5 ∨ k = 12 ∨ k = 13 ∨ k = 14 ∨ k = 15 ∨ k = 16 ∨ k = 17 ∨ k = 22 ∨ k = 23 → I1 153 k = true) ∧ (∀ j, m1 153 j = 0) ∧ m1 154 = fnV (fun j => if j < 2430 then bgV 1 j else 0) ∧ (∀ j, m1 157 j = 0) ∧ ∀ j, m1 165 j = 0 := by
  apply Exists.intro
  apply Exists.intro
  refine ⟨fun S => ?_, ?_, ?_, ?_, ?_, ?_, ?_, ?_⟩
  · skip
    refine mz_cl_vc 120 (fun _ => false) [some (mz_r 9 0 153)] rfl ?_
    simp only [vcS0, vcS1, vcS2, vcS3, vcS4, vcS5, vcS6, vc_n0, vc_lk, vc_pop, vc_rc, vc_tsw, vc_fr, vc_ar, vc_tb, mz_nx, List.set_cons_zero, List.set_cons_succ, Nat.reduceAdd, Nat.reduceBEq, Nat.reduceEqDiff, Nat.reduceLeDiff, Nat.reduceLT, Nat.reduceMul, Int.reduceToNat, Bool.false_eq_true, Bool.or_self, Bool.or_true, Bool.true_or, Bool.or_false, reduceIte, Option.toList_some, Option.toList_none, List.nil_append, List.cons_append, List.length_cons, List.length_nil, true_and, and_true, Int.cast_ofNat_Int, Int.reduceEq, Int.reduceLT, Int.reduceLE, Nat.zero_le, and_self, or_true, true_or, cdS_159, kdv, nfv, iu_at, if_at, and_false, false_and, Nat.reduceEqDiff, reduceCtorEq, Int.reduceAdd]
    refine ⟨_, _, sp_begins (o := 154) _ 1, ?_⟩
    simp only [vcS0, vcS1, vcS2, vcS3, vcS4, vcS5, vcS6, vc_n0, vc_lk, vc_pop, vc_rc, vc_tsw, vc_fr, vc_ar, vc_tb, mz_nx, List.set_cons_zero, List.set_cons_succ, Nat.reduceAdd, Nat.reduceBEq, Nat.reduceEqDiff, Nat.reduceLeDiff, Nat.reduceLT, Nat.reduceMul, Int.reduceToNat, Bool.false_eq_true, Bool.or_self, Bool.or_true, Bool.true_or, Bool.or_false, reduceIte, Option.toList_some, Option.toList_none, List.nil_append, List.cons_append, List.length_cons, List.length_nil, true_and, and_true, Int.cast_ofNat_Int, Int.reduceEq, Int.reduceLT, Int.reduceLE, Nat.zero_le, and_self, or_true, true_or, cdS_159, kdv, nfv, iu_at, if_at, and_false, false_and, Nat.reduceEqDiff, reduceCtorEq, Int.reduceAdd]
    refine ⟨_, _, sp_finds (o := 154) _ ?_, ?_⟩
    · intro j hj
      simp [rO, bgV, zr_at]
      grind
    simp only [vcS0, vcS1, vcS2, vcS3, vcS4, vcS5, vcS6, vc_n0, vc_lk, vc_pop, vc_rc, vc_tsw, vc_fr, vc_ar, vc_tb, mz_nx, List.set_cons_zero, List.set_cons_succ, Nat.reduceAdd, Nat.reduceBEq, Nat.reduceEqDiff, Nat.reduceLeDiff, Nat.reduceLT, Nat.reduceMul, Int.reduceToNat, Bool.false_eq_true, Bool.or_self, Bool.or_true, Bool.true_or, Bool.or_false, reduceIte, Option.toList_some, Option.toList_none, List.nil_append, List.cons_append, List.length_cons, List.length_nil, true_and, and_true, Int.cast_ofNat_Int, Int.reduceEq, Int.reduceLT, Int.reduceLE, Nat.zero_le, and_self, or_true, true_or, cdS_159, kdv, nfv, iu_at, if_at, and_false, false_and, Nat.reduceEqDiff, reduceCtorEq, Int.reduceAdd]
    exact tu rfl (by omega) rfl rfl
  · intro a k ha
    simp (disch := omega) only [iu_o, if_o]
  · intro a ha
    funext j
    unfold rO
    rw [if_neg (by omega), if_neg (by omega)]
    simp (disch := omega) only [zr_o]
  · intro k hk
    rcases hk with rfl | rfl | rfl | rfl | rfl | rfl | rfl | rfl | rfl | rfl | rfl | rfl | rfl <;> simp [iu_at, if_at]
  · intro j
    unfold rO
    rw [if_neg (by omega), if_neg (by omega)]
    simp (disch := omega) only [zr_o]
    exact h0 j
  · rw [rO_at, rO_at]
    simp [zr_at]
  · intro j; simp [rO, zr_at]
  · intro j; simp [rO, zr_at]
