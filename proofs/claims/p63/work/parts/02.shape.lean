/-! The shape of the refutation: a start that the statement allows, and a moment of its run, before its end, at which the heap has grown by more than the room, refute the claim. What is wanting for a refutation in Lean is that moment alone, for the script of REPORT.md. -/
theorem rm_refutes {l : Jvm.Launch} {p : Jvm.Program} {e : Jvm.Env} {s : Jvm.State} {m : Jvm.MethodId} {args : Array Jvm.Value} {below : List Jvm.Frame} (hfl : l.flags = flags0)
    (hA : Jvm.D.AtStart classFile x code maxLocals ret World_1 tables_1 room_1 Calls_1 rest_1 Pre_1 l p e s m args below)
    {k : Nat} (hk : ∀ j, j ≤ k → Jvm.Within (Jvm.stepsAlone p.tables e j s) below) (hbig : s.heap.size + room_1.cells < (Jvm.stepsAlone p.tables e k s).heap.size) : ¬ Claimed_1_1 := by
  intro h
  obtain ⟨hL, hW, h1, -, h3, h4, h5, h6, h7, h8, h9, h10, h11⟩ := hA
  obtain ⟨n, o, w, run, en, post⟩ := h l hfl hL hW p e h1 h3 h4 s m args below h5 h6 h7 h8 ⟨h9, h10, h11⟩
  have hc := rm_cells post
  rcases Nat.lt_or_ge n k with hlt | hge
  · exact en.not_within (hk n (Nat.le_of_lt hlt))
  · have hm := (Jvm.stepsAlone_heap_grows_add p.tables e k (n - k) s).1
    rw [Nat.add_sub_cancel' hge] at hm
    omega
