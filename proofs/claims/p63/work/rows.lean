section
/-! Not a step towards i_vc: what the owed statement asks of the room, and how much of it one refused call of towNext takes in the law's own town (REPORT.md, 'STATEMENT'). -/
/-- whatever the end is: the statement lets the law make 841,381 cells at most .. -/
theorem rm_cells {tb : Jvm.Tables} {e : Jvm.Env} {a : Array Jvm.Value} {s t : Jvm.State} {o : Jvm.Outcome} (h : Post_1_1 tb e a s o t) : t.heap.size ≤ s.heap.size + 841381 :=
  h.2.2.2.2.2.1
/-- .. and 6,577,326 slots -/
theorem rm_slots {tb : Jvm.Tables} {e : Jvm.Env} {a : Array Jvm.Value} {s t : Jvm.State} {o : Jvm.Outcome} (h : Post_1_1 tb e a s o t) : t.slotsUsed ≤ s.slotsUsed + 6577326 := by
  have h1 := h.2.2.2.2.2.2.1
  have h2 := h.2.2.2.2.2.2.2.1
  simp only at h1 h2
  omega
/-- How many calls of way() a call of the law's goes() makes, its callees' among them, in a town of six places that are all joined, where n of six candidates aren't yet in the tour and the two pounds have room for a and b more: one for each candidate (from where the truck is), six for each that isn't in the tour (back to each place). The tour's length bounds the depth d. -/
def rm_ways : Nat → Nat → Nat → Nat → Nat
  | 0, _, _, _ => 0
  | d + 1, n, a, b => 6 + n * (6 + (if a = 0 then 0 else rm_ways d (n - 1) (a - 1) b) + (if b = 0 then 0 else rm_ways d (n - 1) a (b - 1)))
/-- How many calls of goes() there are: each makes an iterator, each but the first had a row of its own made for its tour. -/
def rm_goes : Nat → Nat → Nat → Nat → Nat
  | 0, _, _, _ => 0
  | d + 1, n, a, b => 1 + n * ((if a = 0 then 0 else rm_goes d (n - 1) (a - 1) b) + (if b = 0 then 0 else rm_goes d (n - 1) a (b - 1)))
theorem rm_ways_622 : rm_ways 7 6 2 2 = 60234 := by decide +kernel
theorem rm_goes_622 : rm_goes 7 6 2 2 = 3013 := by decide +kernel
/-- fourteen such calls make more cells than the statement allows, eleven more slots (a row of way() has ten): thirty-four are made on the script of hand-in/NOTES.txt -/
theorem rm_passed : 841381 < 14 * rm_ways 7 6 2 2 ∧ 6577326 < 11 * (10 * rm_ways 7 6 2 2) := by decide +kernel
end
