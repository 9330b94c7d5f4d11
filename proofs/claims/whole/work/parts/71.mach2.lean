/-! The registers, octet by octet and pair by pair, on both sides -/
theorem Rel.oct0 {c r : vmD} (h : Rel c r) {v : Int32} (hv : oct v) : Rel (cO 0 v c) (sA r 65 0 v) := by
  obtain ⟨q1, q2, q3, q4, q5, q6, ⟨g, g0, g1, g2, g3, g4, g5, g6, g7, g8, g9, g10, g11, g12, g13, g14, g15, g16⟩, q8, q9⟩ := h
  show Rel (sA c 39 1 _) _
  unfold Rel RTold RReg RReq
  simp only [gA_sA, gA_sA_ne, gA_sF, gA_sG, gA_sL, gF_sA, gF_sF, gF_sF_ne, gF_sG, gF_sL, gG_sA, gG_sF, gG_sL, gG_sGe, gG_sG_ne, gL_sA, gL_sF, gL_sG, gL_sLe, gL_sL_ne, u1f_eq, u1f_ne, bnd_iff, not_false_eq_true, Nat.reduceEqDiff]
  exact ⟨q1, q2, q3, q4, q5, q6, ⟨g.put1 _ hv, g0, by rw [g1, (pw (g 0 (by omega)).1 (g 1 (by omega)).1).1], g2, g3, g4, g5, g6, g7, g8, g9, g10, g11, g12, g13, g14, g15, g16⟩, q8, q9⟩
theorem Rel.rd0 {c r : vmD} (h : Rel c r) : (gA c 39 1 >>> ((8 : Int32) &&& 31)) &&& 255 = gA r 65 0 := by
  obtain ⟨q1, q2, q3, q4, q5, q6, ⟨g, g0, g1, g2, g3, g4, g5, g6, g7, g8, g9, g10, g11, g12, g13, g14, g15, g16⟩, q8, q9⟩ := h
  rw [g1]
  exact (pw (g 0 (by omega)).1 (g 1 (by omega)).1).2.1
theorem Rel.oct1 {c r : vmD} (h : Rel c r) {v : Int32} (hv : oct v) : Rel (cO 1 v c) (sA r 65 1 v) := by
  obtain ⟨q1, q2, q3, q4, q5, q6, ⟨g, g0, g1, g2, g3, g4, g5, g6, g7, g8, g9, g10, g11, g12, g13, g14, g15, g16⟩, q8, q9⟩ := h
  show Rel (sA c 39 1 _) _
  unfold Rel RTold RReg RReq
  simp only [gA_sA, gA_sA_ne, gA_sF, gA_sG, gA_sL, gF_sA, gF_sF, gF_sF_ne, gF_sG, gF_sL, gG_sA, gG_sF, gG_sL, gG_sGe, gG_sG_ne, gL_sA, gL_sF, gL_sG, gL_sLe, gL_sL_ne, u1f_eq, u1f_ne, bnd_iff, not_false_eq_true, Nat.reduceEqDiff]
  exact ⟨q1, q2, q3, q4, q5, q6, ⟨g.put1 _ hv, g0, by rw [g1, (pw (g 0 (by omega)).1 (g 1 (by omega)).1).2.2.2.2.1], g2, g3, g4, g5, g6, g7, g8, g9, g10, g11, g12, g13, g14, g15, g16⟩, q8, q9⟩
theorem Rel.rd1 {c r : vmD} (h : Rel c r) : gA c 39 1 &&& 255 = gA r 65 1 := by
  obtain ⟨q1, q2, q3, q4, q5, q6, ⟨g, g0, g1, g2, g3, g4, g5, g6, g7, g8, g9, g10, g11, g12, g13, g14, g15, g16⟩, q8, q9⟩ := h
  rw [g1]
  exact (pw (g 0 (by omega)).1 (g 1 (by omega)).1).1
theorem Rel.oct2 {c r : vmD} (h : Rel c r) {v : Int32} (hv : oct v) : Rel (cO 2 v c) (sA r 65 2 v) := by
  obtain ⟨q1, q2, q3, q4, q5, q6, ⟨g, g0, g1, g2, g3, g4, g5, g6, g7, g8, g9, g10, g11, g12, g13, g14, g15, g16⟩, q8, q9⟩ := h
  show Rel (sA c 39 2 _) _
  unfold Rel RTold RReg RReq
  simp only [gA_sA, gA_sA_ne, gA_sF, gA_sG, gA_sL, gF_sA, gF_sF, gF_sF_ne, gF_sG, gF_sL, gG_sA, gG_sF, gG_sL, gG_sGe, gG_sG_ne, gL_sA, gL_sF, gL_sG, gL_sLe, gL_sL_ne, u1f_eq, u1f_ne, bnd_iff, not_false_eq_true, Nat.reduceEqDiff]
  exact ⟨q1, q2, q3, q4, q5, q6, ⟨g.put1 _ hv, g0, g1, by rw [g2, (pw (g 2 (by omega)).1 (g 3 (by omega)).1).1], g3, g4, g5, g6, g7, g8, g9, g10, g11, g12, g13, g14, g15, g16⟩, q8, q9⟩
theorem Rel.rd2 {c r : vmD} (h : Rel c r) : (gA c 39 2 >>> ((8 : Int32) &&& 31)) &&& 255 = gA r 65 2 := by
  obtain ⟨q1, q2, q3, q4, q5, q6, ⟨g, g0, g1, g2, g3, g4, g5, g6, g7, g8, g9, g10, g11, g12, g13, g14, g15, g16⟩, q8, q9⟩ := h
  rw [g2]
  exact (pw (g 2 (by omega)).1 (g 3 (by omega)).1).2.1
theorem Rel.oct3 {c r : vmD} (h : Rel c r) {v : Int32} (hv : oct v) : Rel (cO 3 v c) (sA r 65 3 v) := by
  obtain ⟨q1, q2, q3, q4, q5, q6, ⟨g, g0, g1, g2, g3, g4, g5, g6, g7, g8, g9, g10, g11, g12, g13, g14, g15, g16⟩, q8, q9⟩ := h
  show Rel (sA c 39 2 _) _
  unfold Rel RTold RReg RReq
  simp only [gA_sA, gA_sA_ne, gA_sF, gA_sG, gA_sL, gF_sA, gF_sF, gF_sF_ne, gF_sG, gF_sL, gG_sA, gG_sF, gG_sL, gG_sGe, gG_sG_ne, gL_sA, gL_sF, gL_sG, gL_sLe, gL_sL_ne, u1f_eq, u1f_ne, bnd_iff, not_false_eq_true, Nat.reduceEqDiff]
  exact ⟨q1, q2, q3, q4, q5, q6, ⟨g.put1 _ hv, g0, g1, by rw [g2, (pw (g 2 (by omega)).1 (g 3 (by omega)).1).2.2.2.2.1], g3, g4, g5, g6, g7, g8, g9, g10, g11, g12, g13, g14, g15, g16⟩, q8, q9⟩
theorem Rel.rd3 {c r : vmD} (h : Rel c r) : gA c 39 2 &&& 255 = gA r 65 3 := by
  obtain ⟨q1, q2, q3, q4, q5, q6, ⟨g, g0, g1, g2, g3, g4, g5, g6, g7, g8, g9, g10, g11, g12, g13, g14, g15, g16⟩, q8, q9⟩ := h
  rw [g2]
  exact (pw (g 2 (by omega)).1 (g 3 (by omega)).1).1
theorem Rel.oct4 {c r : vmD} (h : Rel c r) {v : Int32} (hv : oct v) : Rel (cO 4 v c) (sA r 65 4 v) := by
  obtain ⟨q1, q2, q3, q4, q5, q6, ⟨g, g0, g1, g2, g3, g4, g5, g6, g7, g8, g9, g10, g11, g12, g13, g14, g15, g16⟩, q8, q9⟩ := h
  show Rel (sA c 39 3 _) _
  unfold Rel RTold RReg RReq
  simp only [gA_sA, gA_sA_ne, gA_sF, gA_sG, gA_sL, gF_sA, gF_sF, gF_sF_ne, gF_sG, gF_sL, gG_sA, gG_sF, gG_sL, gG_sGe, gG_sG_ne, gL_sA, gL_sF, gL_sG, gL_sLe, gL_sL_ne, u1f_eq, u1f_ne, bnd_iff, not_false_eq_true, Nat.reduceEqDiff]
  exact ⟨q1, q2, q3, q4, q5, q6, ⟨g.put1 _ hv, g0, g1, g2, by rw [g3, (pw (g 4 (by omega)).1 (g 5 (by omega)).1).1], g4, g5, g6, g7, g8, g9, g10, g11, g12, g13, g14, g15, g16⟩, q8, q9⟩
theorem Rel.rd4 {c r : vmD} (h : Rel c r) : (gA c 39 3 >>> ((8 : Int32) &&& 31)) &&& 255 = gA r 65 4 := by
  obtain ⟨q1, q2, q3, q4, q5, q6, ⟨g, g0, g1, g2, g3, g4, g5, g6, g7, g8, g9, g10, g11, g12, g13, g14, g15, g16⟩, q8, q9⟩ := h
  rw [g3]
  exact (pw (g 4 (by omega)).1 (g 5 (by omega)).1).2.1
theorem Rel.oct5 {c r : vmD} (h : Rel c r) {v : Int32} (hv : oct v) : Rel (cO 5 v c) (sA r 65 5 v) := by
  obtain ⟨q1, q2, q3, q4, q5, q6, ⟨g, g0, g1, g2, g3, g4, g5, g6, g7, g8, g9, g10, g11, g12, g13, g14, g15, g16⟩, q8, q9⟩ := h
  show Rel (sA c 39 3 _) _
  unfold Rel RTold RReg RReq
  simp only [gA_sA, gA_sA_ne, gA_sF, gA_sG, gA_sL, gF_sA, gF_sF, gF_sF_ne, gF_sG, gF_sL, gG_sA, gG_sF, gG_sL, gG_sGe, gG_sG_ne, gL_sA, gL_sF, gL_sG, gL_sLe, gL_sL_ne, u1f_eq, u1f_ne, bnd_iff, not_false_eq_true, Nat.reduceEqDiff]
  exact ⟨q1, q2, q3, q4, q5, q6, ⟨g.put1 _ hv, g0, g1, g2, by rw [g3, (pw (g 4 (by omega)).1 (g 5 (by omega)).1).2.2.2.2.1], g4, g5, g6, g7, g8, g9, g10, g11, g12, g13, g14, g15, g16⟩, q8, q9⟩
theorem Rel.rd5 {c r : vmD} (h : Rel c r) : gA c 39 3 &&& 255 = gA r 65 5 := by
  obtain ⟨q1, q2, q3, q4, q5, q6, ⟨g, g0, g1, g2, g3, g4, g5, g6, g7, g8, g9, g10, g11, g12, g13, g14, g15, g16⟩, q8, q9⟩ := h
  rw [g3]
  exact (pw (g 4 (by omega)).1 (g 5 (by omega)).1).1
theorem Rel.oct6 {c r : vmD} (h : Rel c r) {v : Int32} (hv : oct v) : Rel (cO 6 v c) (sA r 65 6 v) := by
  obtain ⟨q1, q2, q3, q4, q5, q6, ⟨g, g0, g1, g2, g3, g4, g5, g6, g7, g8, g9, g10, g11, g12, g13, g14, g15, g16⟩, q8, q9⟩ := h
  show Rel (sA c 39 0 _) _
  unfold Rel RTold RReg RReq
  simp only [gA_sA, gA_sA_ne, gA_sF, gA_sG, gA_sL, gF_sA, gF_sF, gF_sF_ne, gF_sG, gF_sL, gG_sA, gG_sF, gG_sL, gG_sGe, gG_sG_ne, gL_sA, gL_sF, gL_sG, gL_sLe, gL_sL_ne, u1f_eq, u1f_ne, bnd_iff, not_false_eq_true, Nat.reduceEqDiff]
  exact ⟨q1, q2, q3, q4, q5, q6, ⟨g.put1 _ hv, by rw [g0, (pw (g 7 (by omega)).1 (g 6 (by omega)).1).2.2.2.2.1], g1, g2, g3, g4, g5, g6, g7, g8, g9, g10, g11, g12, g13, g14, g15, g16⟩, q8, q9⟩
theorem Rel.rd6 {c r : vmD} (h : Rel c r) : gA c 39 0 &&& 255 = gA r 65 6 := by
  obtain ⟨q1, q2, q3, q4, q5, q6, ⟨g, g0, g1, g2, g3, g4, g5, g6, g7, g8, g9, g10, g11, g12, g13, g14, g15, g16⟩, q8, q9⟩ := h
  rw [g0]
  exact (pw (g 7 (by omega)).1 (g 6 (by omega)).1).1
theorem Rel.oct7 {c r : vmD} (h : Rel c r) {v : Int32} (hv : oct v) : Rel (cO 7 v c) (sA r 65 7 v) := by
  obtain ⟨q1, q2, q3, q4, q5, q6, ⟨g, g0, g1, g2, g3, g4, g5, g6, g7, g8, g9, g10, g11, g12, g13, g14, g15, g16⟩, q8, q9⟩ := h
  show Rel (sA c 39 0 _) _
  unfold Rel RTold RReg RReq
  simp only [gA_sA, gA_sA_ne, gA_sF, gA_sG, gA_sL, gF_sA, gF_sF, gF_sF_ne, gF_sG, gF_sL, gG_sA, gG_sF, gG_sL, gG_sGe, gG_sG_ne, gL_sA, gL_sF, gL_sG, gL_sLe, gL_sL_ne, u1f_eq, u1f_ne, bnd_iff, not_false_eq_true, Nat.reduceEqDiff]
  exact ⟨q1, q2, q3, q4, q5, q6, ⟨g.put1 _ hv, by rw [g0, (pw (g 7 (by omega)).1 (g 6 (by omega)).1).1], g1, g2, g3, g4, g5, g6, g7, g8, g9, g10, g11, g12, g13, g14, g15, g16⟩, q8, q9⟩
theorem Rel.rd7 {c r : vmD} (h : Rel c r) : (gA c 39 0 >>> ((8 : Int32) &&& 31)) &&& 255 = gA r 65 7 := by
  obtain ⟨q1, q2, q3, q4, q5, q6, ⟨g, g0, g1, g2, g3, g4, g5, g6, g7, g8, g9, g10, g11, g12, g13, g14, g15, g16⟩, q8, q9⟩ := h
  rw [g0]
  exact (pw (g 7 (by omega)).1 (g 6 (by omega)).1).2.1
theorem Rel.o65 {c r : vmD} (h : Rel c r) {k : Nat} (hk : k < 8) : oct (gA r 65 k) := (h.2.2.2.2.2.2.1.1 k hk).1
def tri (v : Int32) : Prop := v = 0 ∨ v = 1 ∨ v = 2
theorem Rel.sg10 {c r : vmD} (h : Rel c r) {v : Int32} (hv : wrd v) : Rel (sA c 39 10 v) (sF r 42 75 v) := by
  obtain ⟨q1, q2, q3, q4, q5, q6, ⟨g, g0, g1, g2, g3, g4, g5, g6, g7, g8, g9, g10, g11, g12, g13, g14, g15, g16⟩, q8, q9⟩ := h
  unfold Rel RTold RReg RReq
  simp only [gA_sA, gA_sA_ne, gA_sF, gA_sG, gA_sL, gF_sA, gF_sF, gF_sF_ne, gF_sG, gF_sL, gG_sA, gG_sF, gG_sL, gG_sGe, gG_sG_ne, gL_sA, gL_sF, gL_sG, gL_sLe, gL_sL_ne, u1f_eq, u1f_ne, bnd_iff, not_false_eq_true, Nat.reduceEqDiff]
  exact ⟨q1, q2, q3, q4, q5, q6, ⟨g, g0, g1, g2, g3, g4, g5, g6, g7, g8, g9, ⟨trivial, hv⟩, g11, g12, g13, g14, g15, g16⟩, q8, q9⟩
theorem Rel.gt10 {c r : vmD} (h : Rel c r) : gA c 39 10 = gF r 42 75 ∧ wrd (gF r 42 75) := by
  obtain ⟨q1, q2, q3, q4, q5, q6, ⟨g, g0, g1, g2, g3, g4, g5, g6, g7, g8, g9, g10, g11, g12, g13, g14, g15, g16⟩, q8, q9⟩ := h
  exact ⟨g10.1, g10.1 ▸ g10.2⟩
theorem Rel.sg11 {c r : vmD} (h : Rel c r) {v : Int32} (hv : wrd v) : Rel (sA c 39 11 v) (sF r 42 76 v) := by
  obtain ⟨q1, q2, q3, q4, q5, q6, ⟨g, g0, g1, g2, g3, g4, g5, g6, g7, g8, g9, g10, g11, g12, g13, g14, g15, g16⟩, q8, q9⟩ := h
  unfold Rel RTold RReg RReq
  simp only [gA_sA, gA_sA_ne, gA_sF, gA_sG, gA_sL, gF_sA, gF_sF, gF_sF_ne, gF_sG, gF_sL, gG_sA, gG_sF, gG_sL, gG_sGe, gG_sG_ne, gL_sA, gL_sF, gL_sG, gL_sLe, gL_sL_ne, u1f_eq, u1f_ne, bnd_iff, not_false_eq_true, Nat.reduceEqDiff]
  exact ⟨q1, q2, q3, q4, q5, q6, ⟨g, g0, g1, g2, g3, g4, g5, g6, g7, g8, g9, g10, ⟨trivial, hv⟩, g12, g13, g14, g15, g16⟩, q8, q9⟩
theorem Rel.gt11 {c r : vmD} (h : Rel c r) : gA c 39 11 = gF r 42 76 ∧ wrd (gF r 42 76) := by
  obtain ⟨q1, q2, q3, q4, q5, q6, ⟨g, g0, g1, g2, g3, g4, g5, g6, g7, g8, g9, g10, g11, g12, g13, g14, g15, g16⟩, q8, q9⟩ := h
  exact ⟨g11.1, g11.1 ▸ g11.2⟩
theorem Rel.sg12 {c r : vmD} (h : Rel c r) {v : Int32} (hv : oct v) : Rel (sA c 39 12 v) (sF r 42 72 v) := by
  obtain ⟨q1, q2, q3, q4, q5, q6, ⟨g, g0, g1, g2, g3, g4, g5, g6, g7, g8, g9, g10, g11, g12, g13, g14, g15, g16⟩, q8, q9⟩ := h
  unfold Rel RTold RReg RReq
  simp only [gA_sA, gA_sA_ne, gA_sF, gA_sG, gA_sL, gF_sA, gF_sF, gF_sF_ne, gF_sG, gF_sL, gG_sA, gG_sF, gG_sL, gG_sGe, gG_sG_ne, gL_sA, gL_sF, gL_sG, gL_sLe, gL_sL_ne, u1f_eq, u1f_ne, bnd_iff, not_false_eq_true, Nat.reduceEqDiff]
  exact ⟨q1, q2, q3, q4, q5, q6, ⟨g, g0, g1, g2, g3, g4, g5, g6, g7, g8, g9, g10, g11, ⟨trivial, hv⟩, g13, g14, g15, g16⟩, q8, q9⟩
theorem Rel.gt12 {c r : vmD} (h : Rel c r) : gA c 39 12 = gF r 42 72 ∧ oct (gF r 42 72) := by
  obtain ⟨q1, q2, q3, q4, q5, q6, ⟨g, g0, g1, g2, g3, g4, g5, g6, g7, g8, g9, g10, g11, g12, g13, g14, g15, g16⟩, q8, q9⟩ := h
  exact ⟨g12.1, g12.1 ▸ g12.2⟩
theorem Rel.sg13 {c r : vmD} (h : Rel c r) {v : Int32} (hv : oct v) : Rel (sA c 39 13 v) (sF r 42 73 v) := by
  obtain ⟨q1, q2, q3, q4, q5, q6, ⟨g, g0, g1, g2, g3, g4, g5, g6, g7, g8, g9, g10, g11, g12, g13, g14, g15, g16⟩, q8, q9⟩ := h
  unfold Rel RTold RReg RReq
  simp only [gA_sA, gA_sA_ne, gA_sF, gA_sG, gA_sL, gF_sA, gF_sF, gF_sF_ne, gF_sG, gF_sL, gG_sA, gG_sF, gG_sL, gG_sGe, gG_sG_ne, gL_sA, gL_sF, gL_sG, gL_sLe, gL_sL_ne, u1f_eq, u1f_ne, bnd_iff, not_false_eq_true, Nat.reduceEqDiff]
  exact ⟨q1, q2, q3, q4, q5, q6, ⟨g, g0, g1, g2, g3, g4, g5, g6, g7, g8, g9, g10, g11, g12, ⟨trivial, hv⟩, g14, g15, g16⟩, q8, q9⟩
theorem Rel.gt13 {c r : vmD} (h : Rel c r) : gA c 39 13 = gF r 42 73 ∧ oct (gF r 42 73) := by
  obtain ⟨q1, q2, q3, q4, q5, q6, ⟨g, g0, g1, g2, g3, g4, g5, g6, g7, g8, g9, g10, g11, g12, g13, g14, g15, g16⟩, q8, q9⟩ := h
  exact ⟨g13.1, g13.1 ▸ g13.2⟩
theorem Rel.sg14 {c r : vmD} (h : Rel c r) {v : Int32} (hv : bit1 v) : Rel (sA c 39 14 v) (sF r 42 77 v) := by
  obtain ⟨q1, q2, q3, q4, q5, q6, ⟨g, g0, g1, g2, g3, g4, g5, g6, g7, g8, g9, g10, g11, g12, g13, g14, g15, g16⟩, q8, q9⟩ := h
  unfold Rel RTold RReg RReq
  simp only [gA_sA, gA_sA_ne, gA_sF, gA_sG, gA_sL, gF_sA, gF_sF, gF_sF_ne, gF_sG, gF_sL, gG_sA, gG_sF, gG_sL, gG_sGe, gG_sG_ne, gL_sA, gL_sF, gL_sG, gL_sLe, gL_sL_ne, u1f_eq, u1f_ne, bnd_iff, not_false_eq_true, Nat.reduceEqDiff]
  exact ⟨q1, q2, q3, q4, q5, q6, ⟨g, g0, g1, g2, g3, g4, g5, g6, g7, g8, g9, g10, g11, g12, g13, ⟨trivial, hv⟩, g15, g16⟩, q8, q9⟩
theorem Rel.gt14 {c r : vmD} (h : Rel c r) : gA c 39 14 = gF r 42 77 ∧ bit1 (gF r 42 77) := by
  obtain ⟨q1, q2, q3, q4, q5, q6, ⟨g, g0, g1, g2, g3, g4, g5, g6, g7, g8, g9, g10, g11, g12, g13, g14, g15, g16⟩, q8, q9⟩ := h
  exact ⟨g14.1, g14.1 ▸ g14.2⟩
theorem Rel.sg15 {c r : vmD} (h : Rel c r) {v : Int32} (hv : bit1 v) : Rel (sA c 39 15 v) (sF r 42 78 v) := by
  obtain ⟨q1, q2, q3, q4, q5, q6, ⟨g, g0, g1, g2, g3, g4, g5, g6, g7, g8, g9, g10, g11, g12, g13, g14, g15, g16⟩, q8, q9⟩ := h
  unfold Rel RTold RReg RReq
  simp only [gA_sA, gA_sA_ne, gA_sF, gA_sG, gA_sL, gF_sA, gF_sF, gF_sF_ne, gF_sG, gF_sL, gG_sA, gG_sF, gG_sL, gG_sGe, gG_sG_ne, gL_sA, gL_sF, gL_sG, gL_sLe, gL_sL_ne, u1f_eq, u1f_ne, bnd_iff, not_false_eq_true, Nat.reduceEqDiff]
  exact ⟨q1, q2, q3, q4, q5, q6, ⟨g, g0, g1, g2, g3, g4, g5, g6, g7, g8, g9, g10, g11, g12, g13, g14, ⟨trivial, hv⟩, g16⟩, q8, q9⟩
theorem Rel.gt15 {c r : vmD} (h : Rel c r) : gA c 39 15 = gF r 42 78 ∧ bit1 (gF r 42 78) := by
  obtain ⟨q1, q2, q3, q4, q5, q6, ⟨g, g0, g1, g2, g3, g4, g5, g6, g7, g8, g9, g10, g11, g12, g13, g14, g15, g16⟩, q8, q9⟩ := h
  exact ⟨g15.1, g15.1 ▸ g15.2⟩
theorem Rel.sg16 {c r : vmD} (h : Rel c r) {v : Int32} (hv : tri v) : Rel (sA c 39 16 v) (sF r 42 79 v) := by
  obtain ⟨q1, q2, q3, q4, q5, q6, ⟨g, g0, g1, g2, g3, g4, g5, g6, g7, g8, g9, g10, g11, g12, g13, g14, g15, g16⟩, q8, q9⟩ := h
  unfold Rel RTold RReg RReq
  simp only [gA_sA, gA_sA_ne, gA_sF, gA_sG, gA_sL, gF_sA, gF_sF, gF_sF_ne, gF_sG, gF_sL, gG_sA, gG_sF, gG_sL, gG_sGe, gG_sG_ne, gL_sA, gL_sF, gL_sG, gL_sLe, gL_sL_ne, u1f_eq, u1f_ne, bnd_iff, not_false_eq_true, Nat.reduceEqDiff]
  exact ⟨q1, q2, q3, q4, q5, q6, ⟨g, g0, g1, g2, g3, g4, g5, g6, g7, g8, g9, g10, g11, g12, g13, g14, g15, ⟨trivial, hv⟩⟩, q8, q9⟩
theorem Rel.gt16 {c r : vmD} (h : Rel c r) : gA c 39 16 = gF r 42 79 ∧ tri (gF r 42 79) := by
  obtain ⟨q1, q2, q3, q4, q5, q6, ⟨g, g0, g1, g2, g3, g4, g5, g6, g7, g8, g9, g10, g11, g12, g13, g14, g15, g16⟩, q8, q9⟩ := h
  exact ⟨g16.1, g16.1 ▸ g16.2⟩
theorem Rel.sg8 {c r : vmD} (h : Rel c r) {v : Int32} (hv : wrd v) : Rel (sA c 39 8 v) (sA r 67 1 v) := by
  obtain ⟨q1, q2, q3, q4, q5, q6, ⟨g, g0, g1, g2, g3, g4, g5, g6, g7, g8, g9, g10, g11, g12, g13, g14, g15, g16⟩, q8, q9⟩ := h
  unfold Rel RTold RReg RReq
  simp only [gA_sA, gA_sA_ne, gA_sF, gA_sG, gA_sL, gF_sA, gF_sF, gF_sF_ne, gF_sG, gF_sL, gG_sA, gG_sF, gG_sL, gG_sGe, gG_sG_ne, gL_sA, gL_sF, gL_sG, gL_sLe, gL_sL_ne, u1f_eq, u1f_ne, bnd_iff, not_false_eq_true, Nat.reduceEqDiff]
  exact ⟨q1, q2, q3, q4, q5, q6, ⟨g, g0, g1, g2, g3, g4, g5, g6, g7, ⟨trivial, hv⟩, g9, g10, g11, g12, g13, g14, g15, g16⟩, q8, q9⟩
theorem Rel.gt8 {c r : vmD} (h : Rel c r) : gA c 39 8 = gA r 67 1 ∧ wrd (gA r 67 1) := by
  obtain ⟨q1, q2, q3, q4, q5, q6, ⟨g, g0, g1, g2, g3, g4, g5, g6, g7, g8, g9, g10, g11, g12, g13, g14, g15, g16⟩, q8, q9⟩ := h
  exact ⟨g8.1, g8.1 ▸ g8.2⟩
theorem Rel.sg9 {c r : vmD} (h : Rel c r) {v : Int32} (hv : wrd v) : Rel (sA c 39 9 v) (sA r 67 2 v) := by
  obtain ⟨q1, q2, q3, q4, q5, q6, ⟨g, g0, g1, g2, g3, g4, g5, g6, g7, g8, g9, g10, g11, g12, g13, g14, g15, g16⟩, q8, q9⟩ := h
  unfold Rel RTold RReg RReq
  simp only [gA_sA, gA_sA_ne, gA_sF, gA_sG, gA_sL, gF_sA, gF_sF, gF_sF_ne, gF_sG, gF_sL, gG_sA, gG_sF, gG_sL, gG_sGe, gG_sG_ne, gL_sA, gL_sF, gL_sG, gL_sLe, gL_sL_ne, u1f_eq, u1f_ne, bnd_iff, not_false_eq_true, Nat.reduceEqDiff]
  exact ⟨q1, q2, q3, q4, q5, q6, ⟨g, g0, g1, g2, g3, g4, g5, g6, g7, g8, ⟨trivial, hv⟩, g10, g11, g12, g13, g14, g15, g16⟩, q8, q9⟩
theorem Rel.gt9 {c r : vmD} (h : Rel c r) : gA c 39 9 = gA r 67 2 ∧ wrd (gA r 67 2) := by
  obtain ⟨q1, q2, q3, q4, q5, q6, ⟨g, g0, g1, g2, g3, g4, g5, g6, g7, g8, g9, g10, g11, g12, g13, g14, g15, g16⟩, q8, q9⟩ := h
  exact ⟨g9.1, g9.1 ▸ g9.2⟩
theorem Rel.sg1 {c r : vmD} (h : Rel c r) {v : Int32} (hv : wrd v) : Rel (sA c 39 1 v) (sA (sA r 65 0 ((v >>> ((8 : Int32) &&& 31)) &&& 255)) 65 1 (v &&& 255)) := by
  obtain ⟨q1, q2, q3, q4, q5, q6, ⟨g, g0, g1, g2, g3, g4, g5, g6, g7, g8, g9, g10, g11, g12, g13, g14, g15, g16⟩, q8, q9⟩ := h
  unfold Rel RTold RReg RReq
  simp only [gA_sA, gA_sA_ne, gA_sF, gA_sG, gA_sL, gF_sA, gF_sF, gF_sF_ne, gF_sG, gF_sL, gG_sA, gG_sF, gG_sL, gG_sGe, gG_sG_ne, gL_sA, gL_sF, gL_sG, gL_sLe, gL_sL_ne, u1f_eq, u1f_ne, bnd_iff, not_false_eq_true, Nat.reduceEqDiff]
  rw [(w_split hv).2.and]
  exact ⟨q1, q2, q3, q4, q5, q6, ⟨(g.put1 _ (w_split hv).2).put1 _ (oct_and _), g0, (w_split hv).1.symm, g2, g3, g4, g5, g6, g7, g8, g9, g10, g11, g12, g13, g14, g15, g16⟩, q8, q9⟩
theorem Rel.gt1 {c r : vmD} (h : Rel c r) : gA c 39 1 = ((gA r 65 0 <<< ((8 : Int32) &&& 31)) ||| gA r 65 1) ∧ wrd (gA c 39 1) := by
  obtain ⟨q1, q2, q3, q4, q5, q6, ⟨g, g0, g1, g2, g3, g4, g5, g6, g7, g8, g9, g10, g11, g12, g13, g14, g15, g16⟩, q8, q9⟩ := h
  exact ⟨g1, by rw [g1]; exact (pw (g 0 (by omega)).1 (g 1 (by omega)).1).2.2.2.1⟩
theorem Rel.sg2 {c r : vmD} (h : Rel c r) {v : Int32} (hv : wrd v) : Rel (sA c 39 2 v) (sA (sA r 65 2 ((v >>> ((8 : Int32) &&& 31)) &&& 255)) 65 3 (v &&& 255)) := by
  obtain ⟨q1, q2, q3, q4, q5, q6, ⟨g, g0, g1, g2, g3, g4, g5, g6, g7, g8, g9, g10, g11, g12, g13, g14, g15, g16⟩, q8, q9⟩ := h
  unfold Rel RTold RReg RReq
  simp only [gA_sA, gA_sA_ne, gA_sF, gA_sG, gA_sL, gF_sA, gF_sF, gF_sF_ne, gF_sG, gF_sL, gG_sA, gG_sF, gG_sL, gG_sGe, gG_sG_ne, gL_sA, gL_sF, gL_sG, gL_sLe, gL_sL_ne, u1f_eq, u1f_ne, bnd_iff, not_false_eq_true, Nat.reduceEqDiff]
  rw [(w_split hv).2.and]
  exact ⟨q1, q2, q3, q4, q5, q6, ⟨(g.put1 _ (w_split hv).2).put1 _ (oct_and _), g0, g1, (w_split hv).1.symm, g3, g4, g5, g6, g7, g8, g9, g10, g11, g12, g13, g14, g15, g16⟩, q8, q9⟩
theorem Rel.gt2 {c r : vmD} (h : Rel c r) : gA c 39 2 = ((gA r 65 2 <<< ((8 : Int32) &&& 31)) ||| gA r 65 3) ∧ wrd (gA c 39 2) := by
  obtain ⟨q1, q2, q3, q4, q5, q6, ⟨g, g0, g1, g2, g3, g4, g5, g6, g7, g8, g9, g10, g11, g12, g13, g14, g15, g16⟩, q8, q9⟩ := h
  exact ⟨g2, by rw [g2]; exact (pw (g 2 (by omega)).1 (g 3 (by omega)).1).2.2.2.1⟩
theorem Rel.sg3 {c r : vmD} (h : Rel c r) {v : Int32} (hv : wrd v) : Rel (sA c 39 3 v) (sA (sA r 65 4 ((v >>> ((8 : Int32) &&& 31)) &&& 255)) 65 5 (v &&& 255)) := by
  obtain ⟨q1, q2, q3, q4, q5, q6, ⟨g, g0, g1, g2, g3, g4, g5, g6, g7, g8, g9, g10, g11, g12, g13, g14, g15, g16⟩, q8, q9⟩ := h
  unfold Rel RTold RReg RReq
  simp only [gA_sA, gA_sA_ne, gA_sF, gA_sG, gA_sL, gF_sA, gF_sF, gF_sF_ne, gF_sG, gF_sL, gG_sA, gG_sF, gG_sL, gG_sGe, gG_sG_ne, gL_sA, gL_sF, gL_sG, gL_sLe, gL_sL_ne, u1f_eq, u1f_ne, bnd_iff, not_false_eq_true, Nat.reduceEqDiff]
  rw [(w_split hv).2.and]
  exact ⟨q1, q2, q3, q4, q5, q6, ⟨(g.put1 _ (w_split hv).2).put1 _ (oct_and _), g0, g1, g2, (w_split hv).1.symm, g4, g5, g6, g7, g8, g9, g10, g11, g12, g13, g14, g15, g16⟩, q8, q9⟩
theorem Rel.gt3 {c r : vmD} (h : Rel c r) : gA c 39 3 = ((gA r 65 4 <<< ((8 : Int32) &&& 31)) ||| gA r 65 5) ∧ wrd (gA c 39 3) := by
  obtain ⟨q1, q2, q3, q4, q5, q6, ⟨g, g0, g1, g2, g3, g4, g5, g6, g7, g8, g9, g10, g11, g12, g13, g14, g15, g16⟩, q8, q9⟩ := h
  exact ⟨g3, by rw [g3]; exact (pw (g 4 (by omega)).1 (g 5 (by omega)).1).2.2.2.1⟩
theorem Rel.sg0 {c r : vmD} (h : Rel c r) {v : Int32} (hv : wrd v) : Rel (sA c 39 0 v) (sA (sA r 65 7 ((v >>> ((8 : Int32) &&& 31)) &&& 255)) 65 6 (v &&& 255)) := by
  obtain ⟨q1, q2, q3, q4, q5, q6, ⟨g, g0, g1, g2, g3, g4, g5, g6, g7, g8, g9, g10, g11, g12, g13, g14, g15, g16⟩, q8, q9⟩ := h
  unfold Rel RTold RReg RReq
  simp only [gA_sA, gA_sA_ne, gA_sF, gA_sG, gA_sL, gF_sA, gF_sF, gF_sF_ne, gF_sG, gF_sL, gG_sA, gG_sF, gG_sL, gG_sGe, gG_sG_ne, gL_sA, gL_sF, gL_sG, gL_sLe, gL_sL_ne, u1f_eq, u1f_ne, bnd_iff, not_false_eq_true, Nat.reduceEqDiff]
  rw [(w_split hv).2.and]
  exact ⟨q1, q2, q3, q4, q5, q6, ⟨(g.put1 _ (w_split hv).2).put1 _ (oct_and _), (w_split hv).1.symm, g1, g2, g3, g4, g5, g6, g7, g8, g9, g10, g11, g12, g13, g14, g15, g16⟩, q8, q9⟩
theorem Rel.gt0 {c r : vmD} (h : Rel c r) : gA c 39 0 = ((gA r 65 7 <<< ((8 : Int32) &&& 31)) ||| gA r 65 6) ∧ wrd (gA c 39 0) := by
  obtain ⟨q1, q2, q3, q4, q5, q6, ⟨g, g0, g1, g2, g3, g4, g5, g6, g7, g8, g9, g10, g11, g12, g13, g14, g15, g16⟩, q8, q9⟩ := h
  exact ⟨g0, by rw [g0]; exact (pw (g 7 (by omega)).1 (g 6 (by omega)).1).2.2.2.1⟩
theorem Rel.s19 {c r : vmD} (f : Nat) (v : Int32) : Rel (sF c 19 f v) r = Rel c r := by
  unfold Rel RTold RReg RReq
  simp only [gA_sA, gA_sA_ne, gA_sF, gA_sG, gA_sL, gF_sA, gF_sF, gF_sF_ne, gF_sG, gF_sL, gG_sA, gG_sF, gG_sL, gG_sGe, gG_sG_ne, gL_sA, gL_sF, gL_sG, gL_sLe, gL_sL_ne, u1f_eq, u1f_ne, bnd_iff, not_false_eq_true, Nat.reduceEqDiff]
theorem Rel.s42_59 {c r : vmD} (v : Int32) : Rel c (sF r 42 59 v) = Rel c r := by
  unfold Rel RTold RReg RReq
  simp only [gA_sA, gA_sA_ne, gA_sF, gA_sG, gA_sL, gF_sA, gF_sF, gF_sF_ne, gF_sG, gF_sL, gG_sA, gG_sF, gG_sL, gG_sGe, gG_sG_ne, gL_sA, gL_sF, gL_sG, gL_sLe, gL_sL_ne, u1f_eq, u1f_ne, bnd_iff, not_false_eq_true, Nat.reduceEqDiff]
theorem Rel.s42_60 {c r : vmD} (v : Int32) : Rel c (sF r 42 60 v) = Rel c r := by
  unfold Rel RTold RReg RReq
  simp only [gA_sA, gA_sA_ne, gA_sF, gA_sG, gA_sL, gF_sA, gF_sF, gF_sF_ne, gF_sG, gF_sL, gG_sA, gG_sF, gG_sL, gG_sGe, gG_sG_ne, gL_sA, gL_sF, gL_sG, gL_sLe, gL_sL_ne, u1f_eq, u1f_ne, bnd_iff, not_false_eq_true, Nat.reduceEqDiff]
theorem Rel.s42_61 {c r : vmD} (v : Int32) : Rel c (sF r 42 61 v) = Rel c r := by
  unfold Rel RTold RReg RReq
  simp only [gA_sA, gA_sA_ne, gA_sF, gA_sG, gA_sL, gF_sA, gF_sF, gF_sF_ne, gF_sG, gF_sL, gG_sA, gG_sF, gG_sL, gG_sGe, gG_sG_ne, gL_sA, gL_sF, gL_sG, gL_sLe, gL_sL_ne, u1f_eq, u1f_ne, bnd_iff, not_false_eq_true, Nat.reduceEqDiff]
theorem Rel.s42_62 {c r : vmD} (v : Int32) : Rel c (sF r 42 62 v) = Rel c r := by
  unfold Rel RTold RReg RReq
  simp only [gA_sA, gA_sA_ne, gA_sF, gA_sG, gA_sL, gF_sA, gF_sF, gF_sF_ne, gF_sG, gF_sL, gG_sA, gG_sF, gG_sL, gG_sGe, gG_sG_ne, gL_sA, gL_sF, gL_sG, gL_sLe, gL_sL_ne, u1f_eq, u1f_ne, bnd_iff, not_false_eq_true, Nat.reduceEqDiff]
theorem Rel.s42_63 {c r : vmD} (v : Int32) : Rel c (sF r 42 63 v) = Rel c r := by
  unfold Rel RTold RReg RReq
  simp only [gA_sA, gA_sA_ne, gA_sF, gA_sG, gA_sL, gF_sA, gF_sF, gF_sF_ne, gF_sG, gF_sL, gG_sA, gG_sF, gG_sL, gG_sGe, gG_sG_ne, gL_sA, gL_sF, gL_sG, gL_sLe, gL_sL_ne, u1f_eq, u1f_ne, bnd_iff, not_false_eq_true, Nat.reduceEqDiff]
theorem Rel.s42_64 {c r : vmD} (v : Int32) : Rel c (sF r 42 64 v) = Rel c r := by
  unfold Rel RTold RReg RReq
  simp only [gA_sA, gA_sA_ne, gA_sF, gA_sG, gA_sL, gF_sA, gF_sF, gF_sF_ne, gF_sG, gF_sL, gG_sA, gG_sF, gG_sL, gG_sGe, gG_sG_ne, gL_sA, gL_sF, gL_sG, gL_sLe, gL_sL_ne, u1f_eq, u1f_ne, bnd_iff, not_false_eq_true, Nat.reduceEqDiff]
theorem Rel.out {c r : vmD} (h : Rel c r) {p : Nat} (hp : p < 256) (v : Int32) : Rel (sG (sA c 41 p v) 38 5 (gG c 38 5 + 1)) (sG (sA r 69 p v) 42 86 (gG r 42 86 + 1)) := by
  obtain ⟨q1, q2, q3, q4, q5, q6, ⟨g, g0, g1, g2, g3, g4, g5, g6, g7, g8, g9, g10, g11, g12, g13, g14, g15, g16⟩, q8, q9⟩ := h
  unfold Rel RTold RReg RReq
  simp only [gA_sA, gA_sA_ne, gA_sF, gA_sG, gA_sL, gF_sA, gF_sF, gF_sF_ne, gF_sG, gF_sL, gG_sA, gG_sF, gG_sL, gG_sGe, gG_sG_ne, gL_sA, gL_sF, gL_sG, gL_sLe, gL_sL_ne, u1f_eq, u1f_ne, bnd_iff, not_false_eq_true, Nat.reduceEqDiff]
  refine ⟨q1, q2, q3, q4, q5, q6, ⟨g, g0, g1, g2, g3, g4, g5, g6, g7, g8, g9, g10, g11, g12, g13, g14, g15, g16⟩, ⟨fun x hx => ⟨(q8.1 x hx).1, (q8.1 x hx).2.1, ?_⟩, by rw [q8.2]⟩, q9⟩
  unfold u1f
  by_cases e : x = p
  · rw [if_pos e, if_pos e]
  · rw [if_neg e, if_neg e]
    exact (q8.1 x hx).2.2
theorem Rel.je {c r : vmD} (h : Rel c r) {v : Int32} (hv : bit1 v) : Rel (sF c 38 9 v) (sF r 42 85 v) := by
  obtain ⟨q1, q2, q3, q4, q5, q6, ⟨g, g0, g1, g2, g3, g4, g5, g6, g7, g8, g9, g10, g11, g12, g13, g14, g15, g16⟩, q8, q9⟩ := h
  obtain ⟨w1, w2, w3, w4, w5, w6, w7⟩ := q9
  unfold Rel RTold RReg RReq
  simp only [gA_sA, gA_sA_ne, gA_sF, gA_sG, gA_sL, gF_sA, gF_sF, gF_sF_ne, gF_sG, gF_sL, gG_sA, gG_sF, gG_sL, gG_sGe, gG_sG_ne, gL_sA, gL_sF, gL_sG, gL_sLe, gL_sL_ne, u1f_eq, u1f_ne, bnd_iff, not_false_eq_true, Nat.reduceEqDiff]
  exact ⟨q1, q2, q3, q4, q5, q6, ⟨g, g0, g1, g2, g3, g4, g5, g6, g7, g8, g9, g10, g11, g12, g13, g14, g15, g16⟩, q8, w1, w2, trivial, w4, w5, hv, w7⟩
theorem Rel.hw0 {c r : vmD} (h : Rel c r) : Rel (sF c 38 7 0) (sF r 42 82 0) := by
  obtain ⟨q1, q2, q3, q4, q5, q6, ⟨g, g0, g1, g2, g3, g4, g5, g6, g7, g8, g9, g10, g11, g12, g13, g14, g15, g16⟩, q8, q9⟩ := h
  obtain ⟨w1, w2, w3, w4, w5, w6, w7⟩ := q9
  unfold Rel RTold RReg RReq
  simp only [gA_sA, gA_sA_ne, gA_sF, gA_sG, gA_sL, gF_sA, gF_sF, gF_sF_ne, gF_sG, gF_sL, gG_sA, gG_sF, gG_sL, gG_sGe, gG_sG_ne, gL_sA, gL_sF, gL_sG, gL_sLe, gL_sL_ne, u1f_eq, u1f_ne, bnd_iff, not_false_eq_true, Nat.reduceEqDiff]
  exact ⟨q1, q2, q3, q4, q5, q6, ⟨g, g0, g1, g2, g3, g4, g5, g6, g7, g8, g9, g10, g11, g12, g13, g14, g15, g16⟩, q8, w1, trivial, w3, w4, Or.inl rfl, w6, w7⟩
theorem Rel.pw0 {c r : vmD} (h : Rel c r) : Rel (sF c 38 6 0) (sF r 42 83 0) := by
  obtain ⟨q1, q2, q3, q4, q5, q6, ⟨g, g0, g1, g2, g3, g4, g5, g6, g7, g8, g9, g10, g11, g12, g13, g14, g15, g16⟩, q8, q9⟩ := h
  obtain ⟨w1, w2, w3, w4, w5, w6, w7⟩ := q9
  unfold Rel RTold RReg RReq
  simp only [gA_sA, gA_sA_ne, gA_sF, gA_sG, gA_sL, gF_sA, gF_sF, gF_sF_ne, gF_sG, gF_sL, gG_sA, gG_sF, gG_sL, gG_sGe, gG_sG_ne, gL_sA, gL_sF, gL_sG, gL_sLe, gL_sL_ne, u1f_eq, u1f_ne, bnd_iff, not_false_eq_true, Nat.reduceEqDiff]
  exact ⟨q1, q2, q3, q4, q5, q6, ⟨g, g0, g1, g2, g3, g4, g5, g6, g7, g8, g9, g10, g11, g12, g13, g14, g15, g16⟩, q8, trivial, w2, w3, Or.inl rfl, w5, w6, fun h => absurd h (by decide)⟩
