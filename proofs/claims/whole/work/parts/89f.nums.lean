/-! Numbers that an instruction holds; the refresh by its lead -/
theorem nb36_eq (x : Int32) (c : vmD) (Q : Int32 → vmD → Prop) : Instruction_numberOf 36 x c Q = Q (mb c x) c := by
  simp (config := { decide := true }) only [Instruction_numberOf, mat_eq, wat_eq, if_true, if_false]
theorem nb42_eq (x : Int32) (c : vmD) (Q : Int32 → vmD → Prop) : Instruction_numberOf 42 x c Q = Q (mb c x) c := by
  simp (config := { decide := true }) only [Instruction_numberOf, mat_eq, wat_eq, if_true, if_false]
theorem nb37_eq (x : Int32) (c : vmD) (Q : Int32 → vmD → Prop) : Instruction_numberOf 37 x c Q = Q (mw c x) c := by
  simp (config := { decide := true }) only [Instruction_numberOf, mat_eq, wat_eq, if_true, if_false]
theorem nb43_eq (x : Int32) (c : vmD) (Q : Int32 → vmD → Prop) : Instruction_numberOf 43 x c Q = Q (mw c x) c := by
  simp (config := { decide := true }) only [Instruction_numberOf, mat_eq, wat_eq, if_true, if_false]
theorem nb38_eq (x : Int32) (c : vmD) (Q : Int32 → vmD → Prop) : Instruction_numberOf 38 x c Q = Q (((x + 1) + (Int8.toInt32 (Int32.toInt8 (mb c x)))) &&& 65535) c := by
  simp (config := { decide := true }) only [Instruction_numberOf, mat_eq, wat_eq, if_true, if_false]
theorem nb39_eq (x : Int32) (c : vmD) (Q : Int32 → vmD → Prop) : Instruction_numberOf 39 x c Q = Q (((gF c 19 4) >>> ((3 : Int32) &&& 31)) &&& 7) c := by
  simp (config := { decide := true }) only [Instruction_numberOf, mat_eq, wat_eq, if_true, if_false]
theorem nb40_eq (x : Int32) (c : vmD) (Q : Int32 → vmD → Prop) : Instruction_numberOf 40 x c Q = Q ((gF c 19 4) &&& 56) c := by
  simp (config := { decide := true }) only [Instruction_numberOf, mat_eq, wat_eq, if_true, if_false]
theorem nb0_eq (x : Int32) (c : vmD) (Q : Int32 → vmD → Prop) : Instruction_numberOf 0 x c Q = Q (0) c := by
  simp (config := { decide := true }) only [Instruction_numberOf, mat_eq, wat_eq, if_true, if_false]
theorem nb1_eq (x : Int32) (c : vmD) (Q : Int32 → vmD → Prop) : Instruction_numberOf 1 x c Q = Q (0) c := by
  simp (config := { decide := true }) only [Instruction_numberOf, mat_eq, wat_eq, if_true, if_false]
theorem nb2_eq (x : Int32) (c : vmD) (Q : Int32 → vmD → Prop) : Instruction_numberOf 2 x c Q = Q (0) c := by
  simp (config := { decide := true }) only [Instruction_numberOf, mat_eq, wat_eq, if_true, if_false]
theorem nb3_eq (x : Int32) (c : vmD) (Q : Int32 → vmD → Prop) : Instruction_numberOf 3 x c Q = Q (0) c := by
  simp (config := { decide := true }) only [Instruction_numberOf, mat_eq, wat_eq, if_true, if_false]
theorem nb4_eq (x : Int32) (c : vmD) (Q : Int32 → vmD → Prop) : Instruction_numberOf 4 x c Q = Q (0) c := by
  simp (config := { decide := true }) only [Instruction_numberOf, mat_eq, wat_eq, if_true, if_false]
theorem nb5_eq (x : Int32) (c : vmD) (Q : Int32 → vmD → Prop) : Instruction_numberOf 5 x c Q = Q (0) c := by
  simp (config := { decide := true }) only [Instruction_numberOf, mat_eq, wat_eq, if_true, if_false]
theorem nb6_eq (x : Int32) (c : vmD) (Q : Int32 → vmD → Prop) : Instruction_numberOf 6 x c Q = Q (0) c := by
  simp (config := { decide := true }) only [Instruction_numberOf, mat_eq, wat_eq, if_true, if_false]
theorem nb7_eq (x : Int32) (c : vmD) (Q : Int32 → vmD → Prop) : Instruction_numberOf 7 x c Q = Q (0) c := by
  simp (config := { decide := true }) only [Instruction_numberOf, mat_eq, wat_eq, if_true, if_false]
theorem nb8_eq (x : Int32) (c : vmD) (Q : Int32 → vmD → Prop) : Instruction_numberOf 8 x c Q = Q (0) c := by
  simp (config := { decide := true }) only [Instruction_numberOf, mat_eq, wat_eq, if_true, if_false]
theorem nb9_eq (x : Int32) (c : vmD) (Q : Int32 → vmD → Prop) : Instruction_numberOf 9 x c Q = Q (0) c := by
  simp (config := { decide := true }) only [Instruction_numberOf, mat_eq, wat_eq, if_true, if_false]
theorem nb10_eq (x : Int32) (c : vmD) (Q : Int32 → vmD → Prop) : Instruction_numberOf 10 x c Q = Q (0) c := by
  simp (config := { decide := true }) only [Instruction_numberOf, mat_eq, wat_eq, if_true, if_false]
theorem nb11_eq (x : Int32) (c : vmD) (Q : Int32 → vmD → Prop) : Instruction_numberOf 11 x c Q = Q (0) c := by
  simp (config := { decide := true }) only [Instruction_numberOf, mat_eq, wat_eq, if_true, if_false]
theorem nb12_eq (x : Int32) (c : vmD) (Q : Int32 → vmD → Prop) : Instruction_numberOf 12 x c Q = Q (0) c := by
  simp (config := { decide := true }) only [Instruction_numberOf, mat_eq, wat_eq, if_true, if_false]
theorem nb13_eq (x : Int32) (c : vmD) (Q : Int32 → vmD → Prop) : Instruction_numberOf 13 x c Q = Q (0) c := by
  simp (config := { decide := true }) only [Instruction_numberOf, mat_eq, wat_eq, if_true, if_false]
theorem nb14_eq (x : Int32) (c : vmD) (Q : Int32 → vmD → Prop) : Instruction_numberOf 14 x c Q = Q (0) c := by
  simp (config := { decide := true }) only [Instruction_numberOf, mat_eq, wat_eq, if_true, if_false]
theorem nb15_eq (x : Int32) (c : vmD) (Q : Int32 → vmD → Prop) : Instruction_numberOf 15 x c Q = Q (0) c := by
  simp (config := { decide := true }) only [Instruction_numberOf, mat_eq, wat_eq, if_true, if_false]
theorem nb16_eq (x : Int32) (c : vmD) (Q : Int32 → vmD → Prop) : Instruction_numberOf 16 x c Q = Q (0) c := by
  simp (config := { decide := true }) only [Instruction_numberOf, mat_eq, wat_eq, if_true, if_false]
theorem nb17_eq (x : Int32) (c : vmD) (Q : Int32 → vmD → Prop) : Instruction_numberOf 17 x c Q = Q (0) c := by
  simp (config := { decide := true }) only [Instruction_numberOf, mat_eq, wat_eq, if_true, if_false]
theorem nb18_eq (x : Int32) (c : vmD) (Q : Int32 → vmD → Prop) : Instruction_numberOf 18 x c Q = Q (0) c := by
  simp (config := { decide := true }) only [Instruction_numberOf, mat_eq, wat_eq, if_true, if_false]
theorem nb26_eq (x : Int32) (c : vmD) (Q : Int32 → vmD → Prop) : Instruction_numberOf 26 x c Q = Q (0) c := by
  simp (config := { decide := true }) only [Instruction_numberOf, mat_eq, wat_eq, if_true, if_false]
theorem nb27_eq (x : Int32) (c : vmD) (Q : Int32 → vmD → Prop) : Instruction_numberOf 27 x c Q = Q (0) c := by
  simp (config := { decide := true }) only [Instruction_numberOf, mat_eq, wat_eq, if_true, if_false]
theorem nb29_eq (x : Int32) (c : vmD) (Q : Int32 → vmD → Prop) : Instruction_numberOf 29 x c Q = Q (0) c := by
  simp (config := { decide := true }) only [Instruction_numberOf, mat_eq, wat_eq, if_true, if_false]
theorem nb32_eq (x : Int32) (c : vmD) (Q : Int32 → vmD → Prop) : Instruction_numberOf 32 x c Q = Q (0) c := by
  simp (config := { decide := true }) only [Instruction_numberOf, mat_eq, wat_eq, if_true, if_false]
theorem nb33_eq (x : Int32) (c : vmD) (Q : Int32 → vmD → Prop) : Instruction_numberOf 33 x c Q = Q (0) c := by
  simp (config := { decide := true }) only [Instruction_numberOf, mat_eq, wat_eq, if_true, if_false]
theorem refp_eq {lead : Int32} (h1 : ¬ lead = 203) (h2 : ¬ lead = 237) (h3 : ¬ lead = 221) (h4 : ¬ lead = 253) (c : vmD) (Q : vmD → Prop) : Machine_refresh lead c Q = Q (sA c 39 13 (x13 1 (gA c 39 13))) := by
  unfold Machine_refresh Machine_refresh_33 Machine_refresh_63
  rw [if_neg h1, if_neg h2, if_neg h3, if_neg h4]
  refine (propext bnd_iff).trans ?_
  rw [if_pos rfl, tA (by decide)]
  exact propext bnd_iff
theorem refx_eq {lead : Int32} (h : lead = 203 ∨ lead = 237 ∨ lead = 221 ∨ lead = 253) (c : vmD) (Q : vmD → Prop) : Machine_refresh lead c Q = Q (sA c 39 13 (x13 2 (gA c 39 13))) := by
  have e : Machine_refresh_28 c Q = Q (sA c 39 13 (x13 2 (gA c 39 13))) := by
    unfold Machine_refresh_28 Machine_refresh_33 Machine_refresh_63
    refine (propext bnd_iff).trans ?_
    rw [if_neg (by decide), tA (by decide)]
    exact propext bnd_iff
  unfold Machine_refresh
  rcases h with rfl | rfl | rfl | rfl
  · rw [if_pos rfl, e]
  · rw [if_neg (by decide), if_pos rfl, e]
  · rw [if_neg (by decide), if_neg (by decide), if_pos rfl, e]
  · rw [if_neg (by decide), if_neg (by decide), if_neg (by decide), if_pos rfl, e]
