/-- the number of a set's elements -/
def pop (x : Nat) : Nat → Nat
  | 0 => 0
  | n + 1 => pop x n + x / 2 ^ n % 2
def bcn (x : Nat) : Nat :=
  let a := x - (x / 2 &&& 1431655765)
  let b := (a &&& 858993459) + (a / 4 &&& 858993459)
  let c := (b + b / 16) &&& 252645135
  let d := c + c / 256
  (d + d / 65536) &&& 63
def allN (p : Nat → Bool) (a : Nat) : Nat → Bool
  | 0 => true
  | n + 1 => p (a + n) && allN p a n
theorem allN_ok {p : Nat → Bool} {a n : Nat} (h : allN p a n = true) {x : Nat} (h1 : a ≤ x) (h2 : x < a + n) : p x = true := by
  induction n with
  | zero => omega
  | succ n ih =>
    simp only [allN, Bool.and_eq_true] at h
    rcases Nat.lt_or_ge x (a + n) with q | q
    · exact ih h.2 q
    · rw [show x = a + n by omega]; exact h.1
theorem bcn_0 : allN (fun x => bcn x == pop x 16) 0 1024 = true := by decide +kernel
theorem bcn_1 : allN (fun x => bcn x == pop x 16) 1024 1024 = true := by decide +kernel
theorem bcn_2 : allN (fun x => bcn x == pop x 16) 2048 1024 = true := by decide +kernel
theorem bcn_3 : allN (fun x => bcn x == pop x 16) 3072 1024 = true := by decide +kernel
theorem bcn_4 : allN (fun x => bcn x == pop x 16) 4096 1024 = true := by decide +kernel
theorem bcn_5 : allN (fun x => bcn x == pop x 16) 5120 1024 = true := by decide +kernel
theorem bcn_6 : allN (fun x => bcn x == pop x 16) 6144 1024 = true := by decide +kernel
theorem bcn_7 : allN (fun x => bcn x == pop x 16) 7168 1024 = true := by decide +kernel
theorem bcn_8 : allN (fun x => bcn x == pop x 16) 8192 1024 = true := by decide +kernel
theorem bcn_9 : allN (fun x => bcn x == pop x 16) 9216 1024 = true := by decide +kernel
theorem bcn_10 : allN (fun x => bcn x == pop x 16) 10240 1024 = true := by decide +kernel
theorem bcn_11 : allN (fun x => bcn x == pop x 16) 11264 1024 = true := by decide +kernel
theorem bcn_12 : allN (fun x => bcn x == pop x 16) 12288 1024 = true := by decide +kernel
theorem bcn_13 : allN (fun x => bcn x == pop x 16) 13312 1024 = true := by decide +kernel
theorem bcn_14 : allN (fun x => bcn x == pop x 16) 14336 1024 = true := by decide +kernel
theorem bcn_15 : allN (fun x => bcn x == pop x 16) 15360 1024 = true := by decide +kernel
theorem bcn_16 : allN (fun x => bcn x == pop x 16) 16384 1024 = true := by decide +kernel
theorem bcn_17 : allN (fun x => bcn x == pop x 16) 17408 1024 = true := by decide +kernel
theorem bcn_18 : allN (fun x => bcn x == pop x 16) 18432 1024 = true := by decide +kernel
theorem bcn_19 : allN (fun x => bcn x == pop x 16) 19456 1024 = true := by decide +kernel
theorem bcn_20 : allN (fun x => bcn x == pop x 16) 20480 1024 = true := by decide +kernel
theorem bcn_21 : allN (fun x => bcn x == pop x 16) 21504 1024 = true := by decide +kernel
theorem bcn_22 : allN (fun x => bcn x == pop x 16) 22528 1024 = true := by decide +kernel
theorem bcn_23 : allN (fun x => bcn x == pop x 16) 23552 1024 = true := by decide +kernel
theorem bcn_24 : allN (fun x => bcn x == pop x 16) 24576 1024 = true := by decide +kernel
theorem bcn_25 : allN (fun x => bcn x == pop x 16) 25600 1024 = true := by decide +kernel
theorem bcn_26 : allN (fun x => bcn x == pop x 16) 26624 1024 = true := by decide +kernel
theorem bcn_27 : allN (fun x => bcn x == pop x 16) 27648 1024 = true := by decide +kernel
theorem bcn_28 : allN (fun x => bcn x == pop x 16) 28672 1024 = true := by decide +kernel
theorem bcn_29 : allN (fun x => bcn x == pop x 16) 29696 1024 = true := by decide +kernel
theorem bcn_30 : allN (fun x => bcn x == pop x 16) 30720 1024 = true := by decide +kernel
theorem bcn_31 : allN (fun x => bcn x == pop x 16) 31744 1024 = true := by decide +kernel
theorem bcn_32 : allN (fun x => bcn x == pop x 16) 32768 1024 = true := by decide +kernel
theorem bcn_33 : allN (fun x => bcn x == pop x 16) 33792 1024 = true := by decide +kernel
theorem bcn_34 : allN (fun x => bcn x == pop x 16) 34816 1024 = true := by decide +kernel
theorem bcn_35 : allN (fun x => bcn x == pop x 16) 35840 1024 = true := by decide +kernel
theorem bcn_36 : allN (fun x => bcn x == pop x 16) 36864 1024 = true := by decide +kernel
theorem bcn_37 : allN (fun x => bcn x == pop x 16) 37888 1024 = true := by decide +kernel
theorem bcn_38 : allN (fun x => bcn x == pop x 16) 38912 1024 = true := by decide +kernel
theorem bcn_39 : allN (fun x => bcn x == pop x 16) 39936 1024 = true := by decide +kernel
theorem bcn_40 : allN (fun x => bcn x == pop x 16) 40960 1024 = true := by decide +kernel
theorem bcn_41 : allN (fun x => bcn x == pop x 16) 41984 1024 = true := by decide +kernel
theorem bcn_42 : allN (fun x => bcn x == pop x 16) 43008 1024 = true := by decide +kernel
theorem bcn_43 : allN (fun x => bcn x == pop x 16) 44032 1024 = true := by decide +kernel
theorem bcn_44 : allN (fun x => bcn x == pop x 16) 45056 1024 = true := by decide +kernel
theorem bcn_45 : allN (fun x => bcn x == pop x 16) 46080 1024 = true := by decide +kernel
theorem bcn_46 : allN (fun x => bcn x == pop x 16) 47104 1024 = true := by decide +kernel
theorem bcn_47 : allN (fun x => bcn x == pop x 16) 48128 1024 = true := by decide +kernel
theorem bcn_48 : allN (fun x => bcn x == pop x 16) 49152 1024 = true := by decide +kernel
theorem bcn_49 : allN (fun x => bcn x == pop x 16) 50176 1024 = true := by decide +kernel
theorem bcn_50 : allN (fun x => bcn x == pop x 16) 51200 1024 = true := by decide +kernel
theorem bcn_51 : allN (fun x => bcn x == pop x 16) 52224 1024 = true := by decide +kernel
theorem bcn_52 : allN (fun x => bcn x == pop x 16) 53248 1024 = true := by decide +kernel
theorem bcn_53 : allN (fun x => bcn x == pop x 16) 54272 1024 = true := by decide +kernel
theorem bcn_54 : allN (fun x => bcn x == pop x 16) 55296 1024 = true := by decide +kernel
theorem bcn_55 : allN (fun x => bcn x == pop x 16) 56320 1024 = true := by decide +kernel
theorem bcn_56 : allN (fun x => bcn x == pop x 16) 57344 1024 = true := by decide +kernel
theorem bcn_57 : allN (fun x => bcn x == pop x 16) 58368 1024 = true := by decide +kernel
theorem bcn_58 : allN (fun x => bcn x == pop x 16) 59392 1024 = true := by decide +kernel
theorem bcn_59 : allN (fun x => bcn x == pop x 16) 60416 1024 = true := by decide +kernel
theorem bcn_60 : allN (fun x => bcn x == pop x 16) 61440 1024 = true := by decide +kernel
theorem bcn_61 : allN (fun x => bcn x == pop x 16) 62464 1024 = true := by decide +kernel
theorem bcn_62 : allN (fun x => bcn x == pop x 16) 63488 1024 = true := by decide +kernel
theorem bcn_63 : allN (fun x => bcn x == pop x 16) 64512 1024 = true := by decide +kernel
set_option maxRecDepth 100000 in
theorem bcn_ok {x : Nat} (h : x < 65536) : bcn x = pop x 16 := by
  if h0 : x < 1024 then
    exact beq_iff_eq.mp (allN_ok bcn_0 (by omega) (by omega))
  else
  if h1 : x < 2048 then
    exact beq_iff_eq.mp (allN_ok bcn_1 (by omega) (by omega))
  else
  if h2 : x < 3072 then
    exact beq_iff_eq.mp (allN_ok bcn_2 (by omega) (by omega))
  else
  if h3 : x < 4096 then
    exact beq_iff_eq.mp (allN_ok bcn_3 (by omega) (by omega))
  else
  if h4 : x < 5120 then
    exact beq_iff_eq.mp (allN_ok bcn_4 (by omega) (by omega))
  else
  if h5 : x < 6144 then
    exact beq_iff_eq.mp (allN_ok bcn_5 (by omega) (by omega))
  else
  if h6 : x < 7168 then
    exact beq_iff_eq.mp (allN_ok bcn_6 (by omega) (by omega))
  else
  if h7 : x < 8192 then
    exact beq_iff_eq.mp (allN_ok bcn_7 (by omega) (by omega))
  else
  if h8 : x < 9216 then
    exact beq_iff_eq.mp (allN_ok bcn_8 (by omega) (by omega))
  else
  if h9 : x < 10240 then
    exact beq_iff_eq.mp (allN_ok bcn_9 (by omega) (by omega))
  else
  if h10 : x < 11264 then
    exact beq_iff_eq.mp (allN_ok bcn_10 (by omega) (by omega))
  else
  if h11 : x < 12288 then
    exact beq_iff_eq.mp (allN_ok bcn_11 (by omega) (by omega))
  else
  if h12 : x < 13312 then
    exact beq_iff_eq.mp (allN_ok bcn_12 (by omega) (by omega))
  else
  if h13 : x < 14336 then
    exact beq_iff_eq.mp (allN_ok bcn_13 (by omega) (by omega))
  else
  if h14 : x < 15360 then
    exact beq_iff_eq.mp (allN_ok bcn_14 (by omega) (by omega))
  else
  if h15 : x < 16384 then
    exact beq_iff_eq.mp (allN_ok bcn_15 (by omega) (by omega))
  else
  if h16 : x < 17408 then
    exact beq_iff_eq.mp (allN_ok bcn_16 (by omega) (by omega))
  else
  if h17 : x < 18432 then
    exact beq_iff_eq.mp (allN_ok bcn_17 (by omega) (by omega))
  else
  if h18 : x < 19456 then
    exact beq_iff_eq.mp (allN_ok bcn_18 (by omega) (by omega))
  else
  if h19 : x < 20480 then
    exact beq_iff_eq.mp (allN_ok bcn_19 (by omega) (by omega))
  else
  if h20 : x < 21504 then
    exact beq_iff_eq.mp (allN_ok bcn_20 (by omega) (by omega))
  else
  if h21 : x < 22528 then
    exact beq_iff_eq.mp (allN_ok bcn_21 (by omega) (by omega))
  else
  if h22 : x < 23552 then
    exact beq_iff_eq.mp (allN_ok bcn_22 (by omega) (by omega))
  else
  if h23 : x < 24576 then
    exact beq_iff_eq.mp (allN_ok bcn_23 (by omega) (by omega))
  else
  if h24 : x < 25600 then
    exact beq_iff_eq.mp (allN_ok bcn_24 (by omega) (by omega))
  else
  if h25 : x < 26624 then
    exact beq_iff_eq.mp (allN_ok bcn_25 (by omega) (by omega))
  else
  if h26 : x < 27648 then
    exact beq_iff_eq.mp (allN_ok bcn_26 (by omega) (by omega))
  else
  if h27 : x < 28672 then
    exact beq_iff_eq.mp (allN_ok bcn_27 (by omega) (by omega))
  else
  if h28 : x < 29696 then
    exact beq_iff_eq.mp (allN_ok bcn_28 (by omega) (by omega))
  else
  if h29 : x < 30720 then
    exact beq_iff_eq.mp (allN_ok bcn_29 (by omega) (by omega))
  else
  if h30 : x < 31744 then
    exact beq_iff_eq.mp (allN_ok bcn_30 (by omega) (by omega))
  else
  if h31 : x < 32768 then
    exact beq_iff_eq.mp (allN_ok bcn_31 (by omega) (by omega))
  else
  if h32 : x < 33792 then
    exact beq_iff_eq.mp (allN_ok bcn_32 (by omega) (by omega))
  else
  if h33 : x < 34816 then
    exact beq_iff_eq.mp (allN_ok bcn_33 (by omega) (by omega))
  else
  if h34 : x < 35840 then
    exact beq_iff_eq.mp (allN_ok bcn_34 (by omega) (by omega))
  else
  if h35 : x < 36864 then
    exact beq_iff_eq.mp (allN_ok bcn_35 (by omega) (by omega))
  else
  if h36 : x < 37888 then
    exact beq_iff_eq.mp (allN_ok bcn_36 (by omega) (by omega))
  else
  if h37 : x < 38912 then
    exact beq_iff_eq.mp (allN_ok bcn_37 (by omega) (by omega))
  else
  if h38 : x < 39936 then
    exact beq_iff_eq.mp (allN_ok bcn_38 (by omega) (by omega))
  else
  if h39 : x < 40960 then
    exact beq_iff_eq.mp (allN_ok bcn_39 (by omega) (by omega))
  else
  if h40 : x < 41984 then
    exact beq_iff_eq.mp (allN_ok bcn_40 (by omega) (by omega))
  else
  if h41 : x < 43008 then
    exact beq_iff_eq.mp (allN_ok bcn_41 (by omega) (by omega))
  else
  if h42 : x < 44032 then
    exact beq_iff_eq.mp (allN_ok bcn_42 (by omega) (by omega))
  else
  if h43 : x < 45056 then
    exact beq_iff_eq.mp (allN_ok bcn_43 (by omega) (by omega))
  else
  if h44 : x < 46080 then
    exact beq_iff_eq.mp (allN_ok bcn_44 (by omega) (by omega))
  else
  if h45 : x < 47104 then
    exact beq_iff_eq.mp (allN_ok bcn_45 (by omega) (by omega))
  else
  if h46 : x < 48128 then
    exact beq_iff_eq.mp (allN_ok bcn_46 (by omega) (by omega))
  else
  if h47 : x < 49152 then
    exact beq_iff_eq.mp (allN_ok bcn_47 (by omega) (by omega))
  else
  if h48 : x < 50176 then
    exact beq_iff_eq.mp (allN_ok bcn_48 (by omega) (by omega))
  else
  if h49 : x < 51200 then
    exact beq_iff_eq.mp (allN_ok bcn_49 (by omega) (by omega))
  else
  if h50 : x < 52224 then
    exact beq_iff_eq.mp (allN_ok bcn_50 (by omega) (by omega))
  else
  if h51 : x < 53248 then
    exact beq_iff_eq.mp (allN_ok bcn_51 (by omega) (by omega))
  else
  if h52 : x < 54272 then
    exact beq_iff_eq.mp (allN_ok bcn_52 (by omega) (by omega))
  else
  if h53 : x < 55296 then
    exact beq_iff_eq.mp (allN_ok bcn_53 (by omega) (by omega))
  else
  if h54 : x < 56320 then
    exact beq_iff_eq.mp (allN_ok bcn_54 (by omega) (by omega))
  else
  if h55 : x < 57344 then
    exact beq_iff_eq.mp (allN_ok bcn_55 (by omega) (by omega))
  else
  if h56 : x < 58368 then
    exact beq_iff_eq.mp (allN_ok bcn_56 (by omega) (by omega))
  else
  if h57 : x < 59392 then
    exact beq_iff_eq.mp (allN_ok bcn_57 (by omega) (by omega))
  else
  if h58 : x < 60416 then
    exact beq_iff_eq.mp (allN_ok bcn_58 (by omega) (by omega))
  else
  if h59 : x < 61440 then
    exact beq_iff_eq.mp (allN_ok bcn_59 (by omega) (by omega))
  else
  if h60 : x < 62464 then
    exact beq_iff_eq.mp (allN_ok bcn_60 (by omega) (by omega))
  else
  if h61 : x < 63488 then
    exact beq_iff_eq.mp (allN_ok bcn_61 (by omega) (by omega))
  else
  if h62 : x < 64512 then
    exact beq_iff_eq.mp (allN_ok bcn_62 (by omega) (by omega))
  else
  if h63 : x < 65536 then
    exact beq_iff_eq.mp (allN_ok bcn_63 (by omega) (by omega))
  else
  exact absurd h h63
