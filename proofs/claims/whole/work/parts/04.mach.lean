/-! A small machine of my own over the claim's methods: values, cells by their place in the order in which the constructors make them; its runs are runs of the JVM (part snd). -/
abbrev mz_V : Type := Int ⊕ Option (Nat × Nat × Nat)
abbrev mz_i (n : Int) : mz_V := .inl n
abbrev mz_r (t n o : Nat) : mz_V := .inr (some (t, n, o))
abbrev mz_I : Type := Nat × Nat × Int × Nat × Nat × Nat
abbrev mz_M : Type := Nat → Nat → Int
abbrev mz_S : Type := Nat × Nat × (Nat → Nat → Bool) × mz_M
abbrev mz_Ls : Type := List (Option mz_V)
def mz_up (m : mz_M) (o k : Nat) (v : Int) : mz_M := fun a j => if a = o ∧ j = k then v else m a j
def mz_iu (m : Nat → Nat → Bool) (o k : Nat) : Nat → Nat → Bool := fun a j => if a = o ∧ j = k then true else m a j
def mz_zr (m : mz_M) (o : Nat) : mz_M := fun a j => if a = o then 0 else m a j
def mz_if (m : Nat → Nat → Bool) (o : Nat) : Nat → Nat → Bool := fun a j => if a = o then false else m a j
def mz_cp (m : mz_M) (o d n : Nat) : mz_M := fun a j => if a = d ∧ j < n then m o j else m a j
def mz_w (n : Int) : Prop := -2147483648 ≤ n ∧ n ≤ 2147483647
def mz_and (x y : Int) : Int := (Int32.ofInt x &&& Int32.ofInt y).toInt
def mz_or (x y : Int) : Int := (Int32.ofInt x ||| Int32.ofInt y).toInt
def mz_xor (x y : Int) : Int := (Int32.ofInt x ^^^ Int32.ofInt y).toInt
def mz_shl (x y : Int) : Int := (Int32.ofInt x <<< (Int32.ofInt y &&& 31)).toInt
def mz_shr (x y : Int) : Int := (Int32.ofInt x >>> (Int32.ofInt y &&& 31)).toInt
def mz_ushr (x y : Int) : Int := ((Int32.ofInt x).toUInt32 >>> ((Int32.ofInt y).toUInt32 &&& Int32.toUInt32 31)).toInt32.toInt
def mz_i2b (x : Int) : Int := (Int32.ofInt x).toInt8.toInt32.toInt
/-- reference fields by class and field: kind, length, how far behind the object's own place -/
def mz_frL : List (Nat × (Nat × Nat × Nat)) := [(101, (100, 400, 1)), (102, (100, 400, 2)), (103, (100, 400, 3)), (104, (100, 400, 4)), (105, (100, 16, 5)), (106, (100, 10, 6)), (200, (100, 10, 1)), (201, (100, 10240, 2)), (300, (100, 6, 1)), (301, (100, 6, 2)), (302, (100, 2, 3)), (303, (100, 2, 4)), (304, (100, 24, 5)), (305, (100, 896, 6)), (306, (100, 6, 7)), (307, (100, 6, 8)), (308, (100, 6, 9)), (403, (100, 10, 1)), (404, (100, 10, 2)), (405, (100, 10, 3)), (406, (100, 100, 4)), (407, (100, 100, 5)), (408, (103, 4, 6)), (500, (4, 0, 1)), (501, (100, 600, 16)), (600, (4, 0, 1)), (601, (104, 16, 16)), (602, (1, 0, 17)), (700, (100, 24, 1)), (800, (5, 0, 1)), (801, (6, 0, 18)), (802, (105, 2, 58)), (803, (101, 2, 139)), (804, (3, 0, 140)), (805, (2, 0, 150)), (900, (100, 2430, 1)), (901, (100, 2430, 2)), (902, (100, 4860, 3)), (903, (101, 2, 4)), (905, (102, 600, 5)), (912, (100, 6, 6)), (913, (100, 6, 7)), (914, (100, 6, 8)), (915, (100, 6, 9)), (916, (100, 6, 10)), (917, (100, 10, 11)), (922, (100, 10240, 12)), (923, (100, 10, 13))]
def mz_fr (c k : Nat) : Option (Nat × Nat × Nat) := mz_frL.lookup (c * 100 + k)
/-- rows of references: the elements' class, how far the first is, how far they are apart -/
def mz_ar (t : Nat) : Nat × Nat × Nat := if t = 103 then (7, 1, 2) else if t = 104 then (0, 8, 1) else (6, 1, 40)
def mz_nf (c : Nat) : Nat := [11, 7, 6, 12, 9, 8, 5, 2, 6, 27].getD c 0
/-- what stands at each place once all is made -/
def mz_kdL : List (Nat × Nat) := [(8, 0), (5, 0), (4, 0), (100, 10), (100, 10), (100, 10), (100, 100), (100, 100), (103, 4), (7, 0), (100, 24), (7, 0), (100, 24), (7, 0), (100, 24), (7, 0), (100, 24), (100, 600), (6, 0), (4, 0), (100, 10), (100, 10), (100, 10), (100, 100), (100, 100), (103, 4), (7, 0), (100, 24), (7, 0), (100, 24), (7, 0), (100, 24), (7, 0), (100, 24), (104, 16), (1, 0), (100, 400), (100, 400), (100, 400), (100, 400), (100, 16), (100, 10), (0, 0), (0, 0), (0, 0), (0, 0), (0, 0), (0, 0), (0, 0), (0, 0), (0, 0), (0, 0), (0, 0), (0, 0), (0, 0), (0, 0), (0, 0), (0, 0), (105, 2), (6, 0), (4, 0), (100, 10), (100, 10), (100, 10), (100, 100), (100, 100), (103, 4), (7, 0), (100, 24), (7, 0), (100, 24), (7, 0), (100, 24), (7, 0), (100, 24), (104, 16), (1, 0), (100, 400), (100, 400), (100, 400), (100, 400), (100, 16), (100, 10), (0, 0), (0, 0), (0, 0), (0, 0), (0, 0), (0, 0), (0, 0), (0, 0), (0, 0), (0, 0), (0, 0), (0, 0), (0, 0), (0, 0), (0, 0), (0, 0), (6, 0), (4, 0), (100, 10), (100, 10), (100, 10), (100, 100), (100, 100), (103, 4), (7, 0), (100, 24), (7, 0), (100, 24), (7, 0), (100, 24), (7, 0), (100, 24), (104, 16), (1, 0), (100, 400), (100, 400), (100, 400), (100, 400), (100, 16), (100, 10), (0, 0), (0, 0), (0, 0), (0, 0), (0, 0), (0, 0), (0, 0), (0, 0), (0, 0), (0, 0), (0, 0), (0, 0), (0, 0), (0, 0), (0, 0), (0, 0), (101, 2), (3, 0), (100, 6), (100, 6), (100, 2), (100, 2), (100, 24), (100, 896), (100, 6), (100, 6), (100, 6), (2, 0), (100, 10), (100, 10240), (9, 0), (100, 2430), (100, 2430), (100, 4860), (101, 2), (102, 600), (100, 6), (100, 6), (100, 6), (100, 6), (100, 6), (100, 10), (100, 10240), (100, 10)]
def mz_kd (o : Nat) : Nat × Nat := mz_kdL.getD o (999, 0)
def mz_tx : List (List Int) := [[112, 108, 97, 99, 101, 115], [114, 111, 97, 100], [122, 111, 110, 101], [114, 97, 116, 101], [115, 116, 97, 121], [115, 112, 97, 99, 101, 115], [112, 111, 117, 110, 100], [109, 105, 110, 117, 116, 101, 115, 32, 105, 115, 32, 111, 117, 116, 32, 111, 102, 32, 114, 97, 110, 103, 101], [116, 104, 101, 114, 101, 32, 105, 115, 32, 110, 111, 32, 115, 117, 99, 104, 32, 116, 105, 99, 107, 101, 116], [116, 104, 101, 114, 101, 32, 105, 115, 32, 110, 111, 32, 115, 117, 99, 104, 32, 108, 111, 103, 32, 101, 110, 116, 114, 121], [116, 104, 101, 114, 101, 32, 105, 115, 32, 110, 111, 32, 115, 117, 99, 104, 32, 116, 114, 105, 112], [112, 108, 97, 99, 101, 115], [114, 111, 97, 100], [122, 111, 110, 101], [114, 97, 116, 101], [115, 116, 97, 121], [115, 112, 97, 99, 101, 115], [112, 111, 117, 110, 100]]
def mz_tl (s : Nat) : Nat := (mz_tx.getD s []).length
def mz_tc (s j : Nat) : Int := (mz_tx.getD s []).getD j 0
def mz_pop : Nat → List mz_V → List mz_V → (List mz_V → List mz_V → Prop) → Prop
  | 0, acc, st, K => K acc st
  | n + 1, acc, v :: st, K => mz_pop n (v :: acc) st K
  | _ + 1, _, [], _ => False
def mz_tsw (v : Int) : Int → List Nat → Nat → (Nat → Prop) → Prop
  | _, [], d, jp => jp d
  | lo, t :: ts, d, jp => if v = lo then jp t else mz_tsw v (lo + 1) ts d jp
def mz_tb (a : Nat) : List Nat := ([[2, 4, 6, 8, 10, 12], [2, 4, 2, 2, 2, 2, 2, 4, 2], [7, 10, 13, 16, 19, 22]] : List (List Nat)).getD a []
def mz_rc (b : Int) : List mz_V → Prop
  | .inr (some (t, _, _)) :: _ => (t : Int) = b
  | _ => False
def mz_lk : mz_Ls → Nat → (mz_V → Prop) → Prop
  | some v :: _, 0, K => K v
  | _ :: ls, a + 1, K => mz_lk ls a K
  | _, _, _ => False
section Stp
variable (nx : mz_Ls → List mz_V → mz_S → Prop) (jp : Nat → mz_Ls → List mz_V → mz_S → Prop) (call : Nat → List mz_V → mz_S → (Option mz_V → mz_S → Prop) → Prop) (rt : Option mz_V → mz_S → Prop)
def mz_st0 (e : mz_I) (ls : mz_Ls) (st : List mz_V) (σ : mz_S) : Prop :=
  match e with
  | (0, _, b, _) => nx ls (.inl b :: st) σ
  | (1, a, _) => mz_lk ls a fun v => match v with | .inl n => nx ls (.inl n :: st) σ | .inr _ => False
  | (2, a, _) => mz_lk ls a fun v => match v with | .inl _ => False | .inr r => nx ls (.inr r :: st) σ
  | (3, a, _) => match st with | .inl n :: st => nx (ls.set a (some (.inl n))) st σ | _ => False
  | (4, a, _) => match st with | .inr r :: st => nx (ls.set a (some (.inr r))) st σ | _ => False
  | (5, a, b, _) => mz_lk ls a fun v => match v with | .inl n => mz_w (n + b) ∧ nx (ls.set a (some (.inl (n + b)))) st σ | .inr _ => False
  | (6, _) => match st with | .inl y :: .inl x :: st => mz_w (x + y) ∧ nx ls (.inl (x + y) :: st) σ | _ => False
  | (7, _) => match st with | .inl y :: .inl x :: st => mz_w (x - y) ∧ nx ls (.inl (x - y) :: st) σ | _ => False
  | (8, _) => match st with | .inl y :: .inl x :: st => mz_w (x * y) ∧ nx ls (.inl (x * y) :: st) σ | _ => False
  | (9, _) => match st with | .inl y :: .inl x :: st => (0 < y ∧ 0 ≤ x) ∧ nx ls (.inl (x / y) :: st) σ | _ => False
  | (10, _) => match st with | .inl y :: .inl x :: st => (0 < y ∧ 0 ≤ x) ∧ nx ls (.inl (x % y) :: st) σ | _ => False
  | (11, _) => match st with | .inl y :: .inl x :: st => nx ls (.inl (mz_and x y) :: st) σ | _ => False
  | (12, _) => match st with | .inl y :: .inl x :: st => nx ls (.inl (mz_or x y) :: st) σ | _ => False
  | (13, _) => match st with | .inl y :: .inl x :: st => nx ls (.inl (mz_xor x y) :: st) σ | _ => False
  | (14, _) => match st with | .inl y :: .inl x :: st => nx ls (.inl (mz_shl x y) :: st) σ | _ => False
  | (15, _) => match st with | .inl y :: .inl x :: st => nx ls (.inl (mz_shr x y) :: st) σ | _ => False
  | (16, _) => match st with | .inl y :: .inl x :: st => nx ls (.inl (mz_ushr x y) :: st) σ | _ => False
  | (17, _) => match st with | .inl x :: st => nx ls (.inl (mz_i2b x) :: st) σ | _ => False
  | (18, _) => match st with | v :: st => nx ls (v :: v :: st) σ | _ => False
  | (19, _) => match st with | _ :: st => nx ls st σ | _ => False
  | (20, a, _) => match st with | .inl y :: .inl x :: st => if x = y then jp a ls st σ else nx ls st σ | _ => False
  | (21, a, _) => match st with | .inl y :: .inl x :: st => if x = y then nx ls st σ else jp a ls st σ | _ => False
  | (22, a, _) => match st with | .inl y :: .inl x :: st => if x < y then jp a ls st σ else nx ls st σ | _ => False
  | (23, a, _) => match st with | .inl y :: .inl x :: st => if x < y then nx ls st σ else jp a ls st σ | _ => False
  | (24, a, _) => match st with | .inl y :: .inl x :: st => if x ≤ y then nx ls st σ else jp a ls st σ | _ => False
  | (25, a, _) => match st with | .inl y :: .inl x :: st => if x ≤ y then jp a ls st σ else nx ls st σ | _ => False
  | (26, a, _) => match st with | .inl x :: st => if x = 0 then jp a ls st σ else nx ls st σ | _ => False
  | (27, a, _) => match st with | .inl x :: st => if x = 0 then nx ls st σ else jp a ls st σ | _ => False
  | (28, a, _) => match st with | .inl x :: st => if x < 0 then jp a ls st σ else nx ls st σ | _ => False
  | (29, a, _) => match st with | .inl x :: st => if x < 0 then nx ls st σ else jp a ls st σ | _ => False
  | (30, a, _) => match st with | .inl x :: st => if x ≤ 0 then nx ls st σ else jp a ls st σ | _ => False
  | (31, a, _) => match st with | .inl x :: st => if x ≤ 0 then jp a ls st σ else nx ls st σ | _ => False
  | (32, a, _) => jp a ls st σ
  | (33, a, _) => match st with | .inr none :: st => jp a ls st σ | .inr (some (t, _, _)) :: st => t < 90 ∧ nx ls st σ | _ => False
  | (34, a, _) => match st with | .inr none :: st => nx ls st σ | .inr (some (t, _, _)) :: st => t < 90 ∧ jp a ls st σ | _ => False
  | (35, a, b, c, _) => match st with | .inl v :: st => mz_tsw v b (mz_tb a) c fun t => jp t ls st σ | _ => False
  | _ => False
def mz_st1 (e : mz_I) (ls : mz_Ls) (st : List mz_V) (σ : mz_S) : Prop :=
  match e with
  | (36, a, _, c, _) => match st with | .inr (some (t, _, o)) :: st => t = c ∧ nx ls (.inl (σ.2.2.2 o a) :: st) σ | _ => False
  | (37, a, _, c, _) => match st with | .inr (some (t, _, o)) :: st => t = c ∧ σ.2.2.1 o a = true ∧ (match mz_fr c a with | some (u, n, f) => nx ls (.inr (some (u, n, o + f)) :: st) σ | none => False) | _ => False
  | (38, a, _, c, _) => match st with | .inl v :: .inr (some (t, _, o)) :: st => t = c ∧ nx ls st (σ.1, σ.2.1, σ.2.2.1, mz_up σ.2.2.2 o a v) | _ => False
  | (39, a, _, c, _) => match st with | .inr (some (u, n, q)) :: .inr (some (t, _, o)) :: st => t = c ∧ (match mz_fr c a with | some (u', n', f) => u = u' ∧ n = n' ∧ q = o + f | none => False) ∧ nx ls st (σ.1, σ.2.1, mz_iu σ.2.2.1 o a, σ.2.2.2) | _ => False
  | (40, _) => match st with | .inl j :: .inr (some (t, n, o)) :: st => t = 100 ∧ (0 ≤ j ∧ j < n) ∧ nx ls (.inl (σ.2.2.2 o j.toNat) :: st) σ | _ => False
  | (41, _) => match st with | .inl v :: .inl j :: .inr (some (t, n, o)) :: st => t = 100 ∧ (0 ≤ j ∧ j < n) ∧ nx ls st (σ.1, σ.2.1, σ.2.2.1, mz_up σ.2.2.2 o j.toNat v) | _ => False
  | (42, _) => match st with | .inl j :: .inr (some (t, n, o)) :: st => t = 101 ∧ (0 ≤ j ∧ j < n) ∧ nx ls (.inl (σ.2.2.2 o j.toNat) :: st) σ | _ => False
  | (43, _) => match st with | .inl v :: .inl j :: .inr (some (t, n, o)) :: st => t = 101 ∧ (0 ≤ j ∧ j < n) ∧ (v = 0 ∨ v = 1) ∧ nx ls st (σ.1, σ.2.1, σ.2.2.1, mz_up σ.2.2.2 o j.toNat v) | _ => False
  | (44, _) => match st with | .inl j :: .inr (some (t, n, o)) :: st => (0 ≤ j ∧ j < n) ∧ (if t = 102 then nx ls (.inl (σ.2.2.2 o j.toNat) :: st) σ else t = 91 ∧ nx ls (.inl (mz_tc o j.toNat) :: st) σ) | _ => False
  | (45, _) => match st with | .inl v :: .inl j :: .inr (some (t, n, o)) :: st => t = 102 ∧ (0 ≤ j ∧ j < n) ∧ (-128 ≤ v ∧ v ≤ 127) ∧ nx ls st (σ.1, σ.2.1, σ.2.2.1, mz_up σ.2.2.2 o j.toNat v) | _ => False
  | (46, _) => match st with | .inl j :: .inr (some (t, n, o)) :: st => (103 ≤ t ∧ t ≤ 105) ∧ (0 ≤ j ∧ j < n) ∧ σ.2.2.1 o j.toNat = true ∧ nx ls (.inr (some ((mz_ar t).1, 0, o + ((mz_ar t).2.1 + (mz_ar t).2.2 * j.toNat))) :: st) σ | _ => False
  | (47, _) => match st with | .inr (some (u, n', q)) :: .inl j :: .inr (some (t, n, o)) :: st => (103 ≤ t ∧ t ≤ 105) ∧ (0 ≤ j ∧ j < n) ∧ (u = (mz_ar t).1 ∧ n' = 0 ∧ q = o + ((mz_ar t).2.1 + (mz_ar t).2.2 * j.toNat)) ∧ nx ls st (σ.1, σ.2.1, mz_iu σ.2.2.1 o j.toNat, σ.2.2.2) | _ => False
  | (48, _) => match st with | .inr (some (t, n, _)) :: st => ((100 ≤ t ∧ t ≤ 105) ∨ t = 91) ∧ nx ls (.inl n :: st) σ | _ => False
  | (49, a, _, c, _) => mz_pop c [] st fun as st => st.length ≤ 8 ∧ call a as σ fun r σ' => nx ls (r.toList ++ st) σ'
  | (50, a, b, c, _) => mz_pop c [] st fun as st => mz_rc b as ∧ st.length ≤ 8 ∧ call a as σ fun r σ' => nx ls (r.toList ++ st) σ'
  | (51, a, b, c, _) => mz_pop c [] st fun as st => mz_rc b as ∧ st.length ≤ 8 ∧ call a as σ fun r σ' => nx ls (r.toList ++ st) σ'
  | (52, a, _, c, _) => mz_pop c [] st fun as st => st.length ≤ 8 ∧ call a as σ fun r σ' => nx ls (r.toList ++ st) σ'
  | (54, a, b, c, _) => mz_pop c [] st fun as st => mz_rc b as ∧ st.length ≤ 8 ∧ call a as σ fun r σ' => nx ls (r.toList ++ st) σ'
  | (55, a, _) => match st with | [.inl v] => (if a = 0 then True else if a = 1 then v = 0 ∨ v = 1 else if a = 2 then -128 ≤ v ∧ v ≤ 127 else 0 ≤ v ∧ v ≤ 65535) ∧ rt (some (.inl v)) σ | _ => False
  | (56, _) => match st with | [.inr r] => rt (some (.inr r)) σ | _ => False
  | (57, _) => match st with | [] => rt none σ | _ => False
  | (58, a, _) => mz_kd σ.1 = (a, 0) ∧ nx ls (.inr (some (a, 0, σ.1)) :: st) (σ.1 + 1, σ.2.1 + mz_nf a, mz_if σ.2.2.1 σ.1, mz_zr σ.2.2.2 σ.1)
  | (59, _) => match st with | .inl n :: st => (0 ≤ n ∧ n ≤ 100000) ∧ mz_kd σ.1 = (100, n.toNat) ∧ nx ls (.inr (some (100, n.toNat, σ.1)) :: st) (σ.1 + 1, σ.2.1 + n.toNat, mz_if σ.2.2.1 σ.1, mz_zr σ.2.2.2 σ.1) | _ => False
  | (60, _) => match st with | .inl n :: st => (0 ≤ n ∧ n ≤ 100000) ∧ mz_kd σ.1 = (101, n.toNat) ∧ nx ls (.inr (some (101, n.toNat, σ.1)) :: st) (σ.1 + 1, σ.2.1 + n.toNat, mz_if σ.2.2.1 σ.1, mz_zr σ.2.2.2 σ.1) | _ => False
  | (61, _) => match st with | .inl n :: st => (0 ≤ n ∧ n ≤ 100000) ∧ mz_kd σ.1 = (102, n.toNat) ∧ nx ls (.inr (some (102, n.toNat, σ.1)) :: st) (σ.1 + 1, σ.2.1 + n.toNat, mz_if σ.2.2.1 σ.1, mz_zr σ.2.2.2 σ.1) | _ => False
  | (62, a, _) => match st with | .inl n :: st => (103 ≤ a ∧ a ≤ 105) ∧ (0 ≤ n ∧ n ≤ 100000) ∧ mz_kd σ.1 = (a, n.toNat) ∧ nx ls (.inr (some (a, n.toNat, σ.1)) :: st) (σ.1 + 1, σ.2.1 + n.toNat, mz_if σ.2.2.1 σ.1, mz_zr σ.2.2.2 σ.1) | _ => False
  | (63, _) => match st with | .inr (some (t, _, _)) :: st => t < 10 ∧ st.length ≤ 8 ∧ nx ls st σ | _ => False
  | (64, _) => match st with | .inl n :: .inl dp :: .inr (some (t1, n1, o1)) :: .inl sp :: .inr (some (t0, n0, o0)) :: st => (t0 = 100 ∧ t1 = 100 ∧ sp = 0 ∧ dp = 0) ∧ (0 ≤ n ∧ n ≤ n0 ∧ n ≤ n1) ∧ st.length ≤ 8 ∧ nx ls st (σ.1, σ.2.1, σ.2.2.1, mz_cp σ.2.2.2 o0 o1 n.toNat) | _ => False
  | (65, a, _) => nx ls (.inr (some (90, 0, a)) :: st) σ
  | (66, _) => match st with | .inr (some (t, _, o)) :: st => t = 90 ∧ nx ls (.inr (some (91, mz_tl o, o)) :: st) σ | _ => False
  | (67, _) => match st with | .inr (some (t, _, _)) :: st => t = 90 ∧ nx ls (.inl 0 :: st) σ | _ => False
  | (68, _) => nx ls (.inr none :: st) σ
  | (69, _) => match st with | y :: x :: st => nx ls (y :: x :: y :: x :: st) σ | _ => False
  | (72, _) => nx ls (.inl 1 :: st) σ
  | (73, _) => nx ls (.inr (some (92, 0, 0)) :: st) σ
  | (74, _) => match st with | .inl x :: st => (0 ≤ x ∧ x ≤ 65535) ∧ nx ls (.inl x :: st) σ | _ => False
  | (75, _) => match st with | .inl y :: .inl x :: st => st.length ≤ 8 ∧ nx ls (.inl (max x y) :: st) σ | _ => False
  | (76, _) => match st with | .inl y :: .inl x :: st => st.length ≤ 8 ∧ nx ls (.inl (min x y) :: st) σ | _ => False
  | _ => False
def mz_stp (e : mz_I) (ls : mz_Ls) (st : List mz_V) (σ : mz_S) : Prop :=
  if e.1 < 36 then mz_st0 nx jp e ls st σ else mz_st1 nx call rt e ls st σ
end Stp
def mz_L (k : Nat) : Nat := mz_LL.getD k 0
def mz_cd (k : Nat) : List mz_I := mz_cdL.getD k []
def mz_ent (k : Nat) (args : List mz_V) : mz_Ls := args.map some ++ List.replicate (mz_L k - args.length) none
def mz_run : Nat → Nat → Nat → mz_Ls → List mz_V → mz_S → Option mz_V → mz_S → Prop
  | 0, _, _, _, _, _, _, _ => False
  | n + 1, k, i, ls, st, σ, r0, σ0 => match (mz_cd k)[i]? with
    | none => False
    | some e => mz_stp (fun ls st σ => mz_run n k (i + 1) ls st σ r0 σ0) (fun a ls st σ => mz_run n k a ls st σ r0 σ0)
        (fun k' as σ K => ∃ r1 σ1, mz_run n k' 0 (mz_ent k' as) [] σ r1 σ1 ∧ K r1 σ1) (fun r σ => r = r0 ∧ σ = σ0) e ls st σ
def mz_ex (k i : Nat) (ls : mz_Ls) (st : List mz_V) (σ : mz_S) (r0 : Option mz_V) (σ0 : mz_S) : Prop := ∃ n, mz_run n k i ls st σ r0 σ0
def mz_cl (k : Nat) (as : List mz_V) (σ : mz_S) (r0 : Option mz_V) (σ0 : mz_S) : Prop := mz_ex k 0 (mz_ent k as) [] σ r0 σ0
def mz_gr (σ σ' : mz_S) : Prop := σ.1 ≤ σ'.1 ∧ σ.2.1 ≤ σ'.2.1
theorem mz_gr_rf {σ : mz_S} : mz_gr σ σ := ⟨Nat.le_refl _, Nat.le_refl _⟩
/-- a step goes on in one way alone -/
def mz_one (σa : mz_S) (nx : mz_Ls → List mz_V → mz_S → Prop) (jp : Nat → mz_Ls → List mz_V → mz_S → Prop) (call : Nat → List mz_V → mz_S → (Option mz_V → mz_S → Prop) → Prop) (rt : Option mz_V → mz_S → Prop) (P : (mz_Ls → List mz_V → mz_S → Prop) → (Nat → mz_Ls → List mz_V → mz_S → Prop) → (Nat → List mz_V → mz_S → (Option mz_V → mz_S → Prop) → Prop) → (Option mz_V → mz_S → Prop) → Prop) : Prop :=
  (∃ ls st σ, nx ls st σ ∧ mz_gr σa σ ∧ ∀ nx' jp' call' rt', nx' ls st σ → P nx' jp' call' rt') ∨
  (∃ a ls st σ, jp a ls st σ ∧ mz_gr σa σ ∧ ∀ nx' jp' call' rt', jp' a ls st σ → P nx' jp' call' rt') ∨
  (∃ k as ls st σ, call k as σ (fun r σ' => nx ls (r.toList ++ st) σ') ∧ mz_gr σa σ ∧ ∀ nx' jp' call' rt', call' k as σ (fun r σ' => nx' ls (r.toList ++ st) σ') → P nx' jp' call' rt') ∨
  (∃ r σ, rt r σ ∧ mz_gr σa σ ∧ ∀ nx' jp' call' rt', rt' r σ → P nx' jp' call' rt')
section One
variable {nx : mz_Ls → List mz_V → mz_S → Prop} {jp : Nat → mz_Ls → List mz_V → mz_S → Prop} {call : Nat → List mz_V → mz_S → (Option mz_V → mz_S → Prop) → Prop} {rt : Option mz_V → mz_S → Prop} {σa : mz_S}
  {P Q : (mz_Ls → List mz_V → mz_S → Prop) → (Nat → mz_Ls → List mz_V → mz_S → Prop) → (Nat → List mz_V → mz_S → (Option mz_V → mz_S → Prop) → Prop) → (Option mz_V → mz_S → Prop) → Prop}
theorem mz_one_nx (ls : mz_Ls) (st : List mz_V) (σ : mz_S) (h : nx ls st σ) (hg : mz_gr σa σ := by first | exact ⟨Nat.le_refl _, Nat.le_refl _⟩ | exact ⟨Nat.le_succ _, Nat.le_add_right _ _⟩) : mz_one σa nx jp call rt (fun nx _ _ _ => nx ls st σ) := Or.inl ⟨ls, st, σ, h, hg, fun _ _ _ _ h => h⟩
theorem mz_one_jp (a : Nat) (ls : mz_Ls) (st : List mz_V) (σ : mz_S) (h : jp a ls st σ) (hg : mz_gr σa σ := by first | exact ⟨Nat.le_refl _, Nat.le_refl _⟩ | exact ⟨Nat.le_succ _, Nat.le_add_right _ _⟩) : mz_one σa nx jp call rt (fun _ jp _ _ => jp a ls st σ) := Or.inr (Or.inl ⟨a, ls, st, σ, h, hg, fun _ _ _ _ h => h⟩)
theorem mz_one_rt (r : Option mz_V) (σ : mz_S) (h : rt r σ) (hg : mz_gr σa σ := by first | exact ⟨Nat.le_refl _, Nat.le_refl _⟩ | exact ⟨Nat.le_succ _, Nat.le_add_right _ _⟩) : mz_one σa nx jp call rt (fun _ _ _ rt => rt r σ) := Or.inr (Or.inr (Or.inr ⟨r, σ, h, hg, fun _ _ _ _ h => h⟩))
theorem mz_one_call (k : Nat) (as : List mz_V) (ls : mz_Ls) (st : List mz_V) (σ : mz_S) (h : call k as σ (fun r σ' => nx ls (r.toList ++ st) σ')) (hg : mz_gr σa σ := by first | exact ⟨Nat.le_refl _, Nat.le_refl _⟩ | exact ⟨Nat.le_succ _, Nat.le_add_right _ _⟩) : mz_one σa nx jp call rt (fun nx _ call _ => call k as σ (fun r σ' => nx ls (r.toList ++ st) σ')) := Or.inr (Or.inr (Or.inl ⟨k, as, ls, st, σ, h, hg, fun _ _ _ _ h => h⟩))
theorem mz_one_imp (h : mz_one σa nx jp call rt P) (hpq : ∀ nx jp call rt, P nx jp call rt → Q nx jp call rt) : mz_one σa nx jp call rt Q := by
  rcases h with ⟨ls, st, σ, h, hg, h2⟩ | ⟨a, ls, st, σ, h, hg, h2⟩ | ⟨k, as, ls, st, σ, h, hg, h2⟩ | ⟨r, σ, h, hg, h2⟩
  · exact Or.inl ⟨ls, st, σ, h, hg, fun _ _ _ _ q => hpq _ _ _ _ (h2 _ _ _ _ q)⟩
  · exact Or.inr (Or.inl ⟨a, ls, st, σ, h, hg, fun _ _ _ _ q => hpq _ _ _ _ (h2 _ _ _ _ q)⟩)
  · exact Or.inr (Or.inr (Or.inl ⟨k, as, ls, st, σ, h, hg, fun _ _ _ _ q => hpq _ _ _ _ (h2 _ _ _ _ q)⟩))
  · exact Or.inr (Or.inr (Or.inr ⟨r, σ, h, hg, fun _ _ _ _ q => hpq _ _ _ _ (h2 _ _ _ _ q)⟩))
theorem mz_one_and {p : Prop} (hp : p) (h : mz_one σa nx jp call rt P) : mz_one σa nx jp call rt (fun a b c d => p ∧ P a b c d) := mz_one_imp h fun _ _ _ _ q => ⟨hp, q⟩
theorem mz_one_ite {c : Prop} [Decidable c] (h : if c then mz_one σa nx jp call rt P else mz_one σa nx jp call rt Q) : mz_one σa nx jp call rt (fun x y z w => if c then P x y z w else Q x y z w) := by
  by_cases hc : c
  · rw [if_pos hc] at h
    exact mz_one_imp h fun _ _ _ _ q => by rw [if_pos hc]; exact q
  · rw [if_neg hc] at h
    exact mz_one_imp h fun _ _ _ _ q => by rw [if_neg hc]; exact q
theorem mz_lk_spec {ls : mz_Ls} {a : Nat} {K : mz_V → Prop} (h : mz_lk ls a K) : ∃ v, ls[a]? = some (some v) ∧ K v := by
  induction ls generalizing a with
  | nil => cases a <;> exact h.elim
  | cons x t ih =>
    cases a with
    | zero =>
      cases x with
      | none => exact h.elim
      | some v => exact ⟨v, rfl, h⟩
    | succ a =>
      have h' : mz_lk t a K := by cases x <;> exact h
      obtain ⟨v, h1, h2⟩ := ih h'
      exact ⟨v, by simpa using h1, h2⟩
theorem mz_lk_of {ls : mz_Ls} {a : Nat} {K : mz_V → Prop} {v : mz_V} (h : ls[a]? = some (some v)) (hk : K v) : mz_lk ls a K := by
  induction ls generalizing a with
  | nil => simp at h
  | cons x t ih =>
    cases a with
    | zero =>
      simp at h
      subst h
      exact hk
    | succ a =>
      have h' := ih (by simpa using h)
      cases x <;> exact h'
theorem mz_pop_spec {n : Nat} {acc st : List mz_V} {K : List mz_V → List mz_V → Prop} (h : mz_pop n acc st K) : ∃ as rest, st = as.reverse ++ rest ∧ as.length = n ∧ K (as ++ acc) rest := by
  induction n generalizing acc st with
  | zero => exact ⟨[], st, rfl, rfl, h⟩
  | succ n ih =>
    cases st with
    | nil => exact h.elim
    | cons v st =>
      obtain ⟨as, rest, h1, h2, h3⟩ := ih h
      exact ⟨as ++ [v], rest, by simp [h1], by simp [h2], by simpa using h3⟩
theorem mz_pop_of {n : Nat} {acc as rest : List mz_V} {K : List mz_V → List mz_V → Prop} (hn : as.length = n) (h : K (as ++ acc) rest) : mz_pop n acc (as.reverse ++ rest) K := by
  induction n generalizing acc as with
  | zero =>
    cases as with
    | nil => exact h
    | cons _ _ => simp at hn
  | succ n ih =>
    rcases List.eq_nil_or_concat as with rfl | ⟨as', v, rfl⟩
    · simp at hn
    · have e : (as'.concat v).reverse ++ rest = v :: (as'.reverse ++ rest) := by simp
      rw [e]
      exact ih (by simpa using hn) (by simpa using h)
theorem mz_one_lk {ls : mz_Ls} {a : Nat} {P : mz_V → (mz_Ls → List mz_V → mz_S → Prop) → (Nat → mz_Ls → List mz_V → mz_S → Prop) → (Nat → List mz_V → mz_S → (Option mz_V → mz_S → Prop) → Prop) → (Option mz_V → mz_S → Prop) → Prop} (h : mz_lk ls a fun v => P v nx jp call rt) (hP : ∀ v, P v nx jp call rt → mz_one σa nx jp call rt (P v)) : mz_one σa nx jp call rt (fun a1 a2 a3 a4 => mz_lk ls a fun v => P v a1 a2 a3 a4) := by
  obtain ⟨v, h1, h2⟩ := mz_lk_spec h
  exact mz_one_imp (hP v h2) fun _ _ _ _ q => mz_lk_of h1 q
theorem mz_one_pop {n : Nat} {st : List mz_V} {P : List mz_V → List mz_V → (mz_Ls → List mz_V → mz_S → Prop) → (Nat → mz_Ls → List mz_V → mz_S → Prop) → (Nat → List mz_V → mz_S → (Option mz_V → mz_S → Prop) → Prop) → (Option mz_V → mz_S → Prop) → Prop} (h : mz_pop n [] st fun as st => P as st nx jp call rt) (hP : ∀ as st, P as st nx jp call rt → mz_one σa nx jp call rt (P as st)) : mz_one σa nx jp call rt (fun a1 a2 a3 a4 => mz_pop n [] st fun as st => P as st a1 a2 a3 a4) := by
  obtain ⟨as, rest, h1, h2, h3⟩ := mz_pop_spec h
  subst h1
  exact mz_one_imp (hP _ _ h3) fun _ _ _ _ q => mz_pop_of h2 q
theorem mz_one_tsw {v : Int} {ts : List Nat} {lo : Int} {d : Nat} {ls : mz_Ls} {st : List mz_V} {σ : mz_S} (h : mz_tsw v lo ts d fun t => jp t ls st σ) : mz_one σ nx jp call rt (fun _ a2 _ _ => mz_tsw v lo ts d fun t => a2 t ls st σ) := by
  induction ts generalizing lo with
  | nil => exact mz_one_jp d ls st σ h
  | cons t ts ih =>
    unfold mz_tsw at h ⊢
    apply mz_one_ite
    split at h
    · rename_i hc
      rw [if_pos hc]
      exact mz_one_jp t ls st σ h
    · rename_i hc
      rw [if_neg hc]
      exact ih h
set_option maxHeartbeats 4000000 in
theorem mz_one0 {e : mz_I} {ls : mz_Ls} {st : List mz_V} {σ : mz_S} (h : mz_st0 nx jp e ls st σ) : mz_one σ nx jp call rt (fun nx jp _ _ => mz_st0 nx jp e ls st σ) := by
  unfold mz_st0 at h ⊢
  split at h <;> first
    | exact h.elim
    | exact mz_one_nx _ _ _ h
    | exact mz_one_jp _ _ _ _ h
    | (split at h <;> first | exact h.elim | exact mz_one_nx _ _ _ h | exact mz_one_jp _ _ _ _ h | exact mz_one_and h.1 (mz_one_nx _ _ _ h.2) | exact mz_one_and h.1 (mz_one_jp _ _ _ _ h.2) | exact mz_one_tsw h | (apply mz_one_ite; split at h <;> (rename_i hc; first | (rw [if_pos hc]; first | exact mz_one_nx _ _ _ h | exact mz_one_jp _ _ _ _ h) | (rw [if_neg hc]; first | exact mz_one_nx _ _ _ h | exact mz_one_jp _ _ _ _ h))))
    | (refine mz_one_lk (P := fun v nx _ _ _ => _) h fun v q => ?_; split at q <;> first | exact q.elim | exact mz_one_nx _ _ _ q | exact mz_one_and q.1 (mz_one_nx _ _ _ q.2))
set_option maxHeartbeats 4000000 in
theorem mz_one1 {e : mz_I} {ls : mz_Ls} {st : List mz_V} {σ : mz_S} (h : mz_st1 nx call rt e ls st σ) : mz_one σ nx jp call rt (fun nx _ call rt => mz_st1 nx call rt e ls st σ) := by
  unfold mz_st1 at h ⊢
  split at h <;> first
    | exact h.elim
    | exact mz_one_nx _ _ _ h
    | exact mz_one_and h.1 (mz_one_nx _ _ _ h.2)
    | (refine mz_one_pop (P := fun as st nx _ call _ => _) h fun as st q => ?_; first | exact mz_one_and q.1 (mz_one_call _ _ _ _ _ q.2) | exact mz_one_and q.1 (mz_one_and q.2.1 (mz_one_call _ _ _ _ _ q.2.2)))
    | (split at h <;> first
        | exact h.elim
        | exact mz_one_nx _ _ _ h
        | exact mz_one_rt _ _ h
        | exact mz_one_and h.1 (mz_one_rt _ _ h.2)
        | exact mz_one_and h.1 (mz_one_nx _ _ _ h.2)
        | exact mz_one_and h.1 (mz_one_and h.2.1 (mz_one_nx _ _ _ h.2.2))
        | exact mz_one_and h.1 (mz_one_and h.2.1 (mz_one_and h.2.2.1 (mz_one_nx _ _ _ h.2.2.2)))
        | (refine mz_one_and h.1 (mz_one_and h.2.1 ?_); have h := h.2.2; split at h <;> first | exact h.elim | exact mz_one_nx _ _ _ h)
        | (refine mz_one_and h.1 (mz_one_ite ?_); have h := h.2; split at h <;> (rename_i hc; first | (rw [if_pos hc]; exact mz_one_nx _ _ _ h) | (rw [if_neg hc]; exact mz_one_and h.1 (mz_one_nx _ _ _ h.2)))))
theorem mz_oneS {e : mz_I} {ls : mz_Ls} {st : List mz_V} {σ : mz_S} (h : mz_stp nx jp call rt e ls st σ) : mz_one σ nx jp call rt (fun nx jp call rt => mz_stp nx jp call rt e ls st σ) := by
  unfold mz_stp at h ⊢
  apply mz_one_ite
  split at h
  · rename_i hc
    rw [if_pos hc]
    exact mz_one0 h
  · rename_i hc
    rw [if_neg hc]
    exact mz_one1 h
end One
theorem mz_run_mono : ∀ {n n' : Nat}, n ≤ n' → ∀ {k i : Nat} {ls : mz_Ls} {st : List mz_V} {σ : mz_S} {r0 : Option mz_V} {σ0 : mz_S}, mz_run n k i ls st σ r0 σ0 → mz_run n' k i ls st σ r0 σ0 := by
  intro n
  induction n with
  | zero => intro n' _ k i ls st σ r0 σ0 h; exact h.elim
  | succ n ih =>
    intro n' hn k i ls st σ r0 σ0 h
    obtain ⟨n', rfl⟩ : ∃ j, n' = j + 1 := ⟨n' - 1, by omega⟩
    have hn : n ≤ n' := by omega
    unfold mz_run at h ⊢
    split at h
    · exact h.elim
    · rcases mz_oneS h with ⟨ls, st, σ, h1, -, h2⟩ | ⟨a, ls, st, σ, h1, -, h2⟩ | ⟨k', as, ls, st, σ, ⟨r1, σ1, h1, h3⟩, -, h2⟩ | ⟨r, σ, h1, -, h2⟩
      · exact h2 _ _ _ _ (ih hn h1)
      · exact h2 _ _ _ _ (ih hn h1)
      · exact h2 _ _ _ _ ⟨r1, σ1, ih hn h1, ih hn h3⟩
      · exact h2 _ _ _ _ h1
theorem mz_run_gr : ∀ {n k i : Nat} {ls : mz_Ls} {st : List mz_V} {σ : mz_S} {r0 : Option mz_V} {σ0 : mz_S}, mz_run n k i ls st σ r0 σ0 → mz_gr σ σ0 := by
  intro n
  induction n with
  | zero => intro k i ls st σ r0 σ0 h; exact h.elim
  | succ n ih =>
    intro k i ls st σ r0 σ0 h
    unfold mz_run at h
    split at h
    · exact h.elim
    · have tr : ∀ {a b c : mz_S}, mz_gr a b → mz_gr b c → mz_gr a c := fun p q => ⟨Nat.le_trans p.1 q.1, Nat.le_trans p.2 q.2⟩
      rcases mz_oneS h with ⟨ls, st, σ, h1, hg, h2⟩ | ⟨a, ls, st, σ, h1, hg, h2⟩ | ⟨k', as, ls, st, σ, ⟨r1, σ1, h1, h3⟩, hg, h2⟩ | ⟨r, σ, ⟨-, rfl⟩, hg, h2⟩
      · exact tr hg (ih h1)
      · exact tr hg (ih h1)
      · exact tr hg (tr (ih h1) (ih h3))
      · exact hg
theorem mz_ex_step {k i : Nat} {ls : mz_Ls} {st : List mz_V} {σ : mz_S} {r0 : Option mz_V} {σ0 : mz_S} {e : mz_I} (he : (mz_cd k)[i]? = some e)
    (h : mz_stp (fun ls st σ => mz_ex k (i + 1) ls st σ r0 σ0) (fun a ls st σ => mz_ex k a ls st σ r0 σ0) (fun k' as σ K => ∃ r1 σ1, mz_cl k' as σ r1 σ1 ∧ K r1 σ1) (fun r σ => r = r0 ∧ σ = σ0) e ls st σ) : mz_ex k i ls st σ r0 σ0 := by
  have fin : ∀ n, mz_stp (fun ls st σ => mz_run n k (i + 1) ls st σ r0 σ0) (fun a ls st σ => mz_run n k a ls st σ r0 σ0) (fun k' as σ K => ∃ r1 σ1, mz_run n k' 0 (mz_ent k' as) [] σ r1 σ1 ∧ K r1 σ1) (fun r σ => r = r0 ∧ σ = σ0) e ls st σ → mz_ex k i ls st σ r0 σ0 := by
    intro n h
    refine ⟨n + 1, ?_⟩
    unfold mz_run
    rw [he]
    exact h
  rcases mz_oneS h with ⟨ls, st, σ, ⟨n, h1⟩, -, h2⟩ | ⟨a, ls, st, σ, ⟨n, h1⟩, -, h2⟩ | ⟨k', as, ls, st, σ, ⟨r1, σ1, ⟨n1, h1⟩, ⟨n3, h3⟩⟩, -, h2⟩ | ⟨r, σ, h1, -, h2⟩
  · exact fin n (h2 _ _ _ _ h1)
  · exact fin n (h2 _ _ _ _ h1)
  · exact fin (max n1 n3) (h2 _ _ _ _ ⟨r1, σ1, mz_run_mono (Nat.le_max_left _ _) h1, mz_run_mono (Nat.le_max_right _ _) h3⟩)
  · exact fin 0 (h2 _ _ _ _ h1)
/-- what is to be shown for a stretch of a method: it stops at the rows of ct, and when n is used up -/
def mz_vc : Nat → (Nat → Bool) → Nat → Nat → List mz_I → mz_Ls → List mz_V → mz_S → Option mz_V → mz_S → Prop
  | 0, _, k, i, _, ls, st, σ, r0, σ0 => mz_ex k i ls st σ r0 σ0
  | _ + 1, _, _, _, [], _, _, _, _, _ => False
  | n + 1, ct, k, i, e :: rem, ls, st, σ, r0, σ0 => mz_stp
      (fun ls st σ => if ct (i + 1) then mz_ex k (i + 1) ls st σ r0 σ0 else mz_vc n ct k (i + 1) rem ls st σ r0 σ0)
      (fun a ls st σ => if ct a then mz_ex k a ls st σ r0 σ0 else mz_vc n ct k a ((mz_cd k).drop a) ls st σ r0 σ0)
      (fun k' as σ K => ∃ r1 σ1, mz_cl k' as σ r1 σ1 ∧ K r1 σ1) (fun r σ => r = r0 ∧ σ = σ0) e ls st σ
theorem mz_vc_ok : ∀ (n : Nat) {ct : Nat → Bool} {k i : Nat} {ls : mz_Ls} {st : List mz_V} {σ : mz_S} {r0 : Option mz_V} {σ0 : mz_S}, mz_vc n ct k i ((mz_cd k).drop i) ls st σ r0 σ0 → mz_ex k i ls st σ r0 σ0 := by
  intro n
  induction n with
  | zero => intro ct k i ls st σ r0 σ0 h; exact h
  | succ n ih =>
    intro ct k i ls st σ r0 σ0 h
    cases hd : (mz_cd k).drop i with
    | nil => rw [hd] at h; exact h.elim
    | cons e rem =>
      rw [hd] at h
      have he : (mz_cd k)[i]? = some e := by
        have := congrArg List.head? hd
        simpa [List.head?_drop] using this
      have hr : (mz_cd k).drop (i + 1) = rem := by
        have := congrArg List.tail hd
        simpa [List.tail_drop] using this
      refine mz_ex_step he ?_
      have h' : mz_stp (fun ls st σ => if ct (i + 1) then mz_ex k (i + 1) ls st σ r0 σ0 else mz_vc n ct k (i + 1) rem ls st σ r0 σ0) (fun a ls st σ => if ct a then mz_ex k a ls st σ r0 σ0 else mz_vc n ct k a ((mz_cd k).drop a) ls st σ r0 σ0)
        (fun k' as σ K => ∃ r1 σ1, mz_cl k' as σ r1 σ1 ∧ K r1 σ1) (fun r σ => r = r0 ∧ σ = σ0) e ls st σ := h
      have nxt : ∀ (ls : mz_Ls) (st : List mz_V) (σ : mz_S), (if ct (i + 1) then mz_ex k (i + 1) ls st σ r0 σ0 else mz_vc n ct k (i + 1) rem ls st σ r0 σ0) → mz_ex k (i + 1) ls st σ r0 σ0 := by
        intro ls st σ q
        split at q
        · exact q
        · rw [← hr] at q
          exact ih q
      have jmp : ∀ (a : Nat) (ls : mz_Ls) (st : List mz_V) (σ : mz_S), (if ct a then mz_ex k a ls st σ r0 σ0 else mz_vc n ct k a ((mz_cd k).drop a) ls st σ r0 σ0) → mz_ex k a ls st σ r0 σ0 := by
        intro a ls st σ q
        split at q
        · exact q
        · exact ih q
      rcases mz_oneS h' with ⟨ls, st, σ, h1, -, h2⟩ | ⟨a, ls, st, σ, h1, -, h2⟩ | ⟨k', as, ls, st, σ, ⟨r1, σ1, h1, h3⟩, -, h2⟩ | ⟨r, σ, h1, -, h2⟩
      · exact h2 _ _ _ _ (nxt _ _ _ h1)
      · exact h2 _ _ _ _ (jmp _ _ _ _ h1)
      · exact h2 _ _ _ _ ⟨r1, σ1, h1, nxt _ _ _ h3⟩
      · exact h2 _ _ _ _ h1
theorem mz_cl_vc (n : Nat) (ct : Nat → Bool) {k : Nat} {as : List mz_V} {σ : mz_S} {r0 : Option mz_V} {σ0 : mz_S} (ls : mz_Ls) (hl : mz_ent k as = ls) (h : mz_vc n ct k 0 ((mz_cd k).drop 0) ls [] σ r0 σ0) : mz_cl k as σ r0 σ0 := by
  subst hl
  exact mz_vc_ok n h
