section Cases
variable {p : Program} {l : Launch} {e : Env} {s : State} {m : MethodId} {below : List Frame} {meth : Method} {c : Code} {Q : State → Prop} {b L : Nat} {xs : Nat → Int32}
variable {D : va_G} {cy : Nat → ClassId} {sK sV : Nat → Nat} {vF : Value} {cL : ClassId} {qo : Nat} {ad : Nat → Nat} {f : Nat → Int64} {M : mz_M} {H : Heap} {locs : List Loc} {cells slots : Nat} {ls : Array Slot} {a0 a9 : Nat} {x4 : Int32}
def lw_tg : List Nat := [292, 317, 330, 343, 399, 436, 473, 498, 523, 560, 573, 622, 647, 672, 685, 698, 735, 772, 797, 834, 859, 884, 909, 934, 947, 972, 997, 1022, 1047, 1072, 1140, 1208, 1245, 1270, 1295, 1320, 1345, 1358, 1371, 1427, 1483, 1539, 1595, 1632, 1645, 1694, 1731, 1768, 1793, 1830, 1867, 1904, 1941, 1966, 1979, 1992, 2048, 2104, 2141, 2178]
theorem lw_tgB : (List.range 60).all (fun i => decide (((#[253, 278, 291, 304, 360, 397, 434, 459, 484, 521, 534, 583, 608, 633, 646, 659, 696, 733, 758, 795, 820, 845, 870, 895, 908, 933, 958, 983, 1008, 1033, 1101, 1169, 1206, 1231, 1256, 1281, 1306, 1319, 1332, 1388, 1444, 1500, 1556, 1593, 1606, 1655, 1692, 1729, 1754, 1791, 1828, 1865, 1902, 1927, 1940, 1953, 2009, 2065, 2102, 2139] : Array Int))[i]? = some (((lw_tg.getD i 0 : Nat) : Int) - 39))) = true := by decide +kernel
theorem lw_cases (hl0 : l.stackTraces = false) (C0 : lw_At p s m meth c b L xs) (hX : lc_X s D cy sK sV vF cL) (hJ : lc_J p l e s m below meth c Q b D cy cL qo a0 a9 x4 cells slots) (hcc : cells ≤ 601000) (hss : slots ≤ 7293000) (hin : ∀ i, 1 ≤ i → i ≤ 3 → vp_in (x4 + Int32.ofInt ((i : Nat) : Int)) L) (h0 : ad 0 = a0) (h9 : ad 153 = a9) (hW : lc_W s D cy cL qo ad f M H locs) (hl : lv_has ls 7 [(0, .ref b), (1, .ref a0), (2, .ref a9), (3, .ref qo), (4, .int x4)]) (hR : Rel M) : ∀ i, i < 60 → W p l e room_1 s m #[Value.ref b] below meth c H locs cells slots Q (F0 m (lw_tg.getD i 0) ls []) := by
  intro i hi
  match i, hi with
  | 0, _ => exact lw_c0 hl0 C0 hX hJ hcc hss hin h0 h9 hW hl hR
  | 1, _ => exact lw_c1 hl0 C0 hX hJ hcc hss hin h0 h9 hW hl hR
  | 2, _ => exact lw_c2 hl0 C0 hX hJ hcc hss hin h0 h9 hW hl hR
  | 3, _ => exact lw_c3 hl0 C0 hX hJ hcc hss hin h0 h9 hW hl hR
  | 4, _ => exact lw_c4 hl0 C0 hX hJ hcc hss hin h0 h9 hW hl hR
  | 5, _ => exact lw_c5 hl0 C0 hX hJ hcc hss hin h0 h9 hW hl hR
  | 6, _ => exact lw_c6 hl0 C0 hX hJ hcc hss hin h0 h9 hW hl hR
  | 7, _ => exact lw_c7 hl0 C0 hX hJ hcc hss hin h0 h9 hW hl hR
  | 8, _ => exact lw_c8 hl0 C0 hX hJ hcc hss hin h0 h9 hW hl hR
  | 9, _ => exact lw_c9 hl0 C0 hX hJ hcc hss hin h0 h9 hW hl hR
  | 10, _ => exact lw_c10 hl0 C0 hX hJ hcc hss hin h0 h9 hW hl hR
  | 11, _ => exact lw_c11 hl0 C0 hX hJ hcc hss hin h0 h9 hW hl hR
  | 12, _ => exact lw_c12 hl0 C0 hX hJ hcc hss hin h0 h9 hW hl hR
  | 13, _ => exact lw_c13 hl0 C0 hX hJ hcc hss hin h0 h9 hW hl hR
  | 14, _ => exact lw_c14 hl0 C0 hX hJ hcc hss hin h0 h9 hW hl hR
  | 15, _ => exact lw_c15 hl0 C0 hX hJ hcc hss hin h0 h9 hW hl hR
  | 16, _ => exact lw_c16 hl0 C0 hX hJ hcc hss hin h0 h9 hW hl hR
  | 17, _ => exact lw_c17 hl0 C0 hX hJ hcc hss hin h0 h9 hW hl hR
  | 18, _ => exact lw_c18 hl0 C0 hX hJ hcc hss hin h0 h9 hW hl hR
  | 19, _ => exact lw_c19 hl0 C0 hX hJ hcc hss hin h0 h9 hW hl hR
  | 20, _ => exact lw_c20 hl0 C0 hX hJ hcc hss hin h0 h9 hW hl hR
  | 21, _ => exact lw_c21 hl0 C0 hX hJ hcc hss hin h0 h9 hW hl hR
  | 22, _ => exact lw_c22 hl0 C0 hX hJ hcc hss hin h0 h9 hW hl hR
  | 23, _ => exact lw_c23 hl0 C0 hX hJ hcc hss hin h0 h9 hW hl hR
  | 24, _ => exact lw_c24 hl0 C0 hX hJ hcc hss hin h0 h9 hW hl hR
  | 25, _ => exact lw_c25 hl0 C0 hX hJ hcc hss hin h0 h9 hW hl hR
  | 26, _ => exact lw_c26 hl0 C0 hX hJ hcc hss hin h0 h9 hW hl hR
  | 27, _ => exact lw_c27 hl0 C0 hX hJ hcc hss hin h0 h9 hW hl hR
  | 28, _ => exact lw_c28 hl0 C0 hX hJ hcc hss hin h0 h9 hW hl hR
  | 29, _ => exact lw_c29 hl0 C0 hX hJ hcc hss hin h0 h9 hW hl hR
  | 30, _ => exact lw_c30 hl0 C0 hX hJ hcc hss hin h0 h9 hW hl hR
  | 31, _ => exact lw_c31 hl0 C0 hX hJ hcc hss hin h0 h9 hW hl hR
  | 32, _ => exact lw_c32 hl0 C0 hX hJ hcc hss hin h0 h9 hW hl hR
  | 33, _ => exact lw_c33 hl0 C0 hX hJ hcc hss hin h0 h9 hW hl hR
  | 34, _ => exact lw_c34 hl0 C0 hX hJ hcc hss hin h0 h9 hW hl hR
  | 35, _ => exact lw_c35 hl0 C0 hX hJ hcc hss hin h0 h9 hW hl hR
  | 36, _ => exact lw_c36 hl0 C0 hX hJ hcc hss hin h0 h9 hW hl hR
  | 37, _ => exact lw_c37 hl0 C0 hX hJ hcc hss hin h0 h9 hW hl hR
  | 38, _ => exact lw_c38 hl0 C0 hX hJ hcc hss hin h0 h9 hW hl hR
  | 39, _ => exact lw_c39 hl0 C0 hX hJ hcc hss hin h0 h9 hW hl hR
  | 40, _ => exact lw_c40 hl0 C0 hX hJ hcc hss hin h0 h9 hW hl hR
  | 41, _ => exact lw_c41 hl0 C0 hX hJ hcc hss hin h0 h9 hW hl hR
  | 42, _ => exact lw_c42 hl0 C0 hX hJ hcc hss hin h0 h9 hW hl hR
  | 43, _ => exact lw_c43 hl0 C0 hX hJ hcc hss hin h0 h9 hW hl hR
  | 44, _ => exact lw_c44 hl0 C0 hX hJ hcc hss hin h0 h9 hW hl hR
  | 45, _ => exact lw_c45 hl0 C0 hX hJ hcc hss hin h0 h9 hW hl hR
  | 46, _ => exact lw_c46 hl0 C0 hX hJ hcc hss hin h0 h9 hW hl hR
  | 47, _ => exact lw_c47 hl0 C0 hX hJ hcc hss hin h0 h9 hW hl hR
  | 48, _ => exact lw_c48 hl0 C0 hX hJ hcc hss hin h0 h9 hW hl hR
  | 49, _ => exact lw_c49 hl0 C0 hX hJ hcc hss hin h0 h9 hW hl hR
  | 50, _ => exact lw_c50 hl0 C0 hX hJ hcc hss hin h0 h9 hW hl hR
  | 51, _ => exact lw_c51 hl0 C0 hX hJ hcc hss hin h0 h9 hW hl hR
  | 52, _ => exact lw_c52 hl0 C0 hX hJ hcc hss hin h0 h9 hW hl hR
  | 53, _ => exact lw_c53 hl0 C0 hX hJ hcc hss hin h0 h9 hW hl hR
  | 54, _ => exact lw_c54 hl0 C0 hX hJ hcc hss hin h0 h9 hW hl hR
  | 55, _ => exact lw_c55 hl0 C0 hX hJ hcc hss hin h0 h9 hW hl hR
  | 56, _ => exact lw_c56 hl0 C0 hX hJ hcc hss hin h0 h9 hW hl hR
  | 57, _ => exact lw_c57 hl0 C0 hX hJ hcc hss hin h0 h9 hW hl hR
  | 58, _ => exact lw_c58 hl0 C0 hX hJ hcc hss hin h0 h9 hW hl hR
  | 59, _ => exact lw_c59 hl0 C0 hX hJ hcc hss hin h0 h9 hW hl hR
  | i + 60, h => exact absurd h (by omega)
theorem and63 (x : Int32) : 0 ≤ (x &&& 63).toInt ∧ (x &&& 63).toInt ≤ 63 := by
  have h : (x &&& 63).toBitVec.toNat ≤ 63 := by
    rw [Int32.toBitVec_and, BitVec.toNat_and]
    exact Nat.and_le_right
  have e : (x &&& 63).toInt = ((x &&& 63).toBitVec.toNat : Int) := BitVec.toInt_eq_toNat_of_lt (by omega)
  omega
theorem nI_off {a i L : Nat} (h : a + i < L) (hL : L ≤ 2048) : vp_in (nI a + Int32.ofInt ((i : Nat) : Int)) L := by
  rw [nI_i, nI_add]
  exact vp_in_nI h (by omega)
theorem i32_sub4 {L : Nat} (hL : L ≤ 2048) : (Int32.ofNat L - Int32.ofInt 4).toInt = (L : Int) - 4 := by
  have h1 : (Int32.ofNat L).toInt = (L : Int) := nI_toInt (n := L) (by omega)
  have h4 : (Int32.ofInt 4).toInt = 4 := by decide
  rw [Int32.toInt_sub, h1, h4]
  exact Int.bmod_eq_of_le (by omega) (by omega)
/-- the law's loop -/
theorem lc_loop (hl0 : l.stackTraces = false) (hL : L ≤ 2048) (C0 : lw_At p s m meth c b L xs) (hX : lc_X s D cy sK sV vF cL) : ∀ (n j : Nat), 514 ≤ j + n → 4 * j ≤ L + 3 → ∀ (ad : Nat → Nat) (f : Nat → Int64) (M : mz_M) (H : Heap) (locs : List Loc) (ls : Array Slot), lc_W s D cy cL qo ad f M H locs → Rel M → lv_has ls 7 [(0, .ref b), (1, .ref (ad 0)), (2, .ref (ad 153)), (3, .ref qo), (4, .int (nI (4 * j)))] → W p l e room_1 s m #[Value.ref b] below meth c H locs (168 + j) (39358 + 6 * j) (lw_Z below #[Value.ref b] s) (F0 m 23 ls []) := by
  obtain ⟨hx, hb, hr, hml, hown, hts, hXs, hbl, hlk, hgv⟩ := id C0
  have hbA : ¬ (fun q : Nat => s.heap.size ≤ q) b := Nat.not_le.mpr hbl
  intro n
  induction n with
  | zero => intro j h1 h2; exact absurd h1 (by omega)
  | succ n ih =>
    intro j hjn hj ad f M H locs ls hW hR hl
    have hS := hW.2.2.2.1
    have d23 : decode code 23 = .ok (.iload 4, 2) := by decide +kernel
    have d25 : decode code 25 = .ok (.aload_n 0, 1) := by decide +kernel
    have d26 : decode code 26 = .ok (.arraylength, 1) := by decide +kernel
    have d27 : decode code 27 = .ok (.iconst 4, 1) := by decide +kernel
    have d28 : decode code 28 = .ok (.isub, 1) := by decide +kernel
    have d29 : decode code 29 = .ok (.if_icmp .gt 2192, 3) := by decide +kernel
    refine lv_iload hx hb d23 (lv_at hl 4 rfl) ?_
    refine lv_aload_n hx hb d25 rfl (lv_at hl 0 rfl) ?_
    refine va_slen hx hb hXs hbl hbA hS d26 ?_
    refine lv_iconst hx hb d27 rfl ?_
    refine lv_isub hx hb d28 ?_
    have e4 := i32_sub4 hL
    have ej : (nI (4 * j)).toInt = ((4 * j : Nat) : Int) := nI_toInt (by omega)
    refine lv_icmp_gt (tgt := 2221) hx hb d29 (by decide) (fun q => ?_) (fun q => ?_)
    · have d1 : decode code 2221 = .ok (.iconst 1, 1) := by decide +kernel
      have d2 : decode code 2222 = .ok (.ireturn, 1) := by decide +kernel
      refine lv_iconst hx hb d1 rfl ?_
      refine va_forget (fun q hq => hS.2.2 q hq) ?_
      refine W.widen (k := 601024) (n := 7293034) (by omega) (by omega) ?_
      exact lw_ret hx hb hr hlk d2
    · rw [Int32.lt_iff_toInt_lt, e4, ej] at q
      have hlt : 4 * j + 3 < L := by omega
      have d32 : decode code 32 = .ok (.aload_n 0, 1) := by decide +kernel
      have d33 : decode code 33 = .ok (.iload 4, 2) := by decide +kernel
      have d35 : decode code 35 = .ok (.iaload, 1) := by decide +kernel
      have d36 : decode code 36 = .ok (.bipush 63, 2) := by decide +kernel
      have d38 : decode code 38 = .ok (.iand, 1) := by decide +kernel
      have d39 : decode code 39 = .ok (.tableswitch 2176 0 59 #[253, 278, 291, 304, 360, 397, 434, 459, 484, 521, 534, 583, 608, 633, 646, 659, 696, 733, 758, 795, 820, 845, 870, 895, 908, 933, 958, 983, 1008, 1033, 1101, 1169, 1206, 1231, 1256, 1281, 1306, 1319, 1332, 1388, 1444, 1500, 1556, 1593, 1606, 1655, 1692, 1729, 1754, 1791, 1828, 1865, 1902, 1927, 1940, 1953, 2009, 2065, 2102, 2139], 253) := by decide +kernel
      have hJ : lc_J p l e s m below meth c (lw_Z below #[Value.ref b] s) b D cy cL qo (ad 0) (ad 153) (nI (4 * j)) (168 + j) (39358 + 6 * j) := by
        intro ad' f' M' H' locs' ls' a0 a9 W' R' l'
        have d1 : decode code 2215 = .ok (.iinc 4 4, 3) := by decide +kernel
        have d2 : decode code 2218 = .ok (.goto (-2195), 3) := by decide +kernel
        refine lv_iinc (v := nI (4 * (j + 1))) (lv' := [(4, .int (nI (4 * (j + 1)))), (0, .ref b), (1, .ref (ad 0)), (2, .ref (ad 153)), (3, .ref qo)]) hx hb d1 l' (k := 4) rfl (by rw [show (4 : Int) = ((4 : Nat) : Int) from rfl, nI_i, nI_add, show 4 * j + 4 = 4 * (j + 1) by omega]) (by decide) rfl (fun ls2 hl2 => ?_)
        refine lv_goto (tgt := 23) hx hb d2 (by decide) ?_
        have k := ih (j + 1) (by omega) (by omega) ad' f' M' H' locs' ls2 W' R' (by rw [a0, a9]; exact lv_sub hl2 [1, 2, 3, 4, 0] rfl)
        rw [show 168 + (j + 1) = 168 + j + 1 by omega, show 39358 + 6 * (j + 1) = 39358 + 6 * j + 6 by omega] at k
        exact k
      refine lv_aload_n hx hb d32 rfl (lv_at hl 0 rfl) ?_
      refine lv_iload hx hb d33 (lv_at hl 4 rfl) ?_
      refine va_sld hx hb hXs hbl hbA hS (vp_in_nI (by omega) (by omega)) d35 ?_
      refine lv_bipush (v := 63) hx hb d36 (by decide) ?_
      refine lv_iand hx hb d38 ?_
      have hz := and63 (xs (nI (4 * j)).toNatClampNeg)
      generalize xs (nI (4 * j)).toNatClampNeg &&& 63 = z at hz ⊢
      by_cases h6 : z.toInt < 60
      · obtain ⟨i, hi⟩ := nat_i hz.1
        have hB := of_decide_eq_true (List.all_eq_true.mp lw_tgB i (List.mem_range.mpr (by omega)))
        refine lv_tableIn (tgt := lw_tg.getD i 0) hx hb d39 (by omega) (by omega) (by rw [hi, Int.sub_zero, Int.toNat_natCast]; exact hB) (by omega) ?_
        exact lw_cases hl0 C0 hX hJ (by omega) (by omega) (fun i h1 h2 => nI_off (by omega) hL) rfl rfl hW hl hR i (by omega)
      · refine lv_tableOut (tgt := 2215) hx hb d39 (Or.inr (by omega)) (by decide) ?_
        refine W.widen (Nat.le_succ _) (Nat.le_add_right _ 6) ?_
        exact hJ ad f M H locs ls rfl rfl hW hR hl
end Cases
