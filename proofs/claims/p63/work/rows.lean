section
/-! Not a step towards i_vc: what the owed statement asks of the room, and how much of it one refused call of towNext takes in the law's own town (REPORT.md, 'STATEMENT'). -/
/-- whatever the end is: the statement lets the law make no more cells than its room has (the room is measured anew at each TURN, so no number stands here) .. -/
theorem rm_cells {tb : Jvm.Tables} {e : Jvm.Env} {a : Array Jvm.Value} {s t : Jvm.State} {o : Jvm.Outcome} (h : Post_1_1 tb e a s o t) : t.heap.size ≤ s.heap.size + room_1.cells :=
  h.2.2.2.2.2.1
/-- .. and no more slots -/
theorem rm_slots {tb : Jvm.Tables} {e : Jvm.Env} {a : Array Jvm.Value} {s t : Jvm.State} {o : Jvm.Outcome} (h : Post_1_1 tb e a s o t) : t.slotsUsed ≤ s.slotsUsed + room_1.slots := by
  have h1 := h.2.2.2.2.2.2.1
  have h2 := h.2.2.2.2.2.2.2.1
  simp only [room_1] at h1 h2 ⊢
  omega
/-- How many calls of way() a call of the law's goes() makes, its callees' among them, in a town of six places that are all joined, where n of six candidates aren't yet in the tour and the two pounds have room for a and b more: one for each candidate (from where the truck is), six for each that isn't in the tour (back to each place). The tour's length bounds the depth d. -/
def rm_ways : Nat → Nat → Nat → Nat → Nat
  | 0, _, _, _ => 0
  | d + 1, n, a, b => 6 + n * (6 + (if a = 0 then 0 else rm_ways d (n - 1) (a - 1) b) + (if b = 0 then 0 else rm_ways d (n - 1) a (b - 1)))
/-- How many calls of goes() there are: each makes an iterator, each but the first had a row of its own made for its tour. -/
def rm_goes : Nat → Nat → Nat → Nat → Nat
  | 0, _, _, _ => 0
  | d + 1, n, a, b => 1 + n * ((if a = 0 then 0 else rm_goes d (n - 1) (a - 1) b) + (if b = 0 then 0 else rm_goes d (n - 1) a (b - 1)))
theorem rm_ways_622 : rm_ways 7 6 2 2 = 60234 := by decide +kernel
theorem rm_goes_622 : rm_goes 7 6 2 2 = 3013 := by decide +kernel
/-- thirty-four such calls, as on the script of REPORT.md, make more cells and more slots than this TURN's statement allows (a row of way() has ten) .. -/
theorem rm_passed : room_1.cells < 34 * rm_ways 7 6 2 2 ∧ room_1.slots < 34 * (10 * rm_ways 7 6 2 2) := by decide +kernel
/-- .. and more slots than 9,200,000, the most that any TURN prints -/
theorem rm_passed_any : 9200000 < 34 * (10 * rm_ways 7 6 2 2) := by decide +kernel
end
section
/-! The shape of the refutation: a start that the statement allows, and a moment of its run, before its end, at which the heap has grown by more than the room, refute the claim. What is wanting for a refutation in Lean is that moment alone, for the script of REPORT.md. -/
theorem rm_refutes {l : Jvm.Launch} {p : Jvm.Program} {e : Jvm.Env} {s : Jvm.State} {m : Jvm.MethodId} {args : Array Jvm.Value} {below : List Jvm.Frame} (hfl : l.flags = flags0)
    (hA : Jvm.D.AtStart classFile x code maxLocals ret World_1 tables_1 room_1 Calls_1 rest_1 Pre_1 l p e s m args below)
    {k : Nat} (hk : ∀ j, j ≤ k → Jvm.Within (Jvm.stepsAlone p.tables e j s) below) (hbig : s.heap.size + room_1.cells < (Jvm.stepsAlone p.tables e k s).heap.size) : ¬ Claimed_1_1 := by
  intro h
  obtain ⟨hL, hW, h1, -, h3, h4, h5, h6, h7, h8, h9, h10, h11⟩ := hA
  obtain ⟨n, o, w, run, en, post⟩ := h l hfl hL hW p e h1 h3 h4 s m args below h5 h6 h7 h8 ⟨h9, h10, h11⟩
  have hc := rm_cells post
  rcases Nat.lt_or_ge n k with hlt | hge
  · exact en.not_within (hk n (Nat.le_of_lt hlt))
  · have hm := (Jvm.stepsAlone_heap_grows_add p.tables e k (n - k) s).1
    rw [Nat.add_sub_cancel' hge] at hm
    omega
end
