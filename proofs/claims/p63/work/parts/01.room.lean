/-! Not a step towards i_vc: what the owed statement asks of the room, and how much of it one refused call of towNext takes in the law's own town (REPORT.md, 'STATEMENT'). -/
/-- whatever the end is: the statement lets the law make no more cells than its room has (the room is measured anew at each TURN, so no number stands here) .. -/
theorem rm_cells {tb : Jvm.Tables} {e : Jvm.Env} {a : Array Jvm.Value} {s t : Jvm.State} {o : Jvm.Outcome} (h : Post_1_1 tb e a s o t) : t.heap.size ≤ s.heap.size + room_1.cells :=
  h.2.2.2.2.2.1
/-- .. and no more slots -/
theorem rm_slots {tb : Jvm.Tables} {e : Jvm.Env} {a : Array Jvm.Value} {s t : Jvm.State} {o : Jvm.Outcome} (h : Post_1_1 tb e a s o t) : t.slotsUsed ≤ s.slotsUsed + room_1.slots := by
  have h1 := h.2.2.2.2.2.2.1
  have h2 := h.2.2.2.2.2.2.2.1
  simp only [room_1] at h1 h2 ⊢
  omega
/-- How many calls of way() a call of the law's goes() makes, its callees' among them, in a town of six places that are all joined, where n of six candidates aren't yet in the tour and the two pounds have room for a and b more: one for each candidate (from where the truck is), six for each that isn't in the tour (back to each place). The tour's length bounds the depth d. -/
def rm_ways : Nat → Nat → Nat → Nat → Nat
  | 0, _, _, _ => 0
  | d + 1, n, a, b => 6 + n * (6 + (if a = 0 then 0 else rm_ways d (n - 1) (a - 1) b) + (if b = 0 then 0 else rm_ways d (n - 1) a (b - 1)))
/-- How many calls of goes() there are: each makes an iterator, each but the first had a row of its own made for its tour. -/
def rm_goes : Nat → Nat → Nat → Nat → Nat
  | 0, _, _, _ => 0
  | d + 1, n, a, b => 1 + n * ((if a = 0 then 0 else rm_goes d (n - 1) (a - 1) b) + (if b = 0 then 0 else rm_goes d (n - 1) a (b - 1)))
theorem rm_ways_622 : rm_ways 7 6 2 2 = 60234 := by decide +kernel
theorem rm_goes_622 : rm_goes 7 6 2 2 = 3013 := by decide +kernel
/-- thirty-four such calls, as on the script of REPORT.md, make more cells and more slots than this TURN's statement allows (a row of way() has ten) .. -/
theorem rm_passed : room_1.cells < 34 * rm_ways 7 6 2 2 ∧ room_1.slots < 34 * (10 * rm_ways 7 6 2 2) := by decide +kernel
/-- .. and more slots than 9,200,000, the most that any TURN prints -/
theorem rm_passed_any : 9200000 < 34 * (10 * rm_ways 7 6 2 2) := by decide +kernel
