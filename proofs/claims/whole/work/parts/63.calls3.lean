/-! The call set -/
theorem shr8 {k : Nat} (h : k < 2 ^ 31) : nI k >>> ((8 : Int32) &&& 31) = nI (k / 256) := pk_shrN h _ 8 (by decide)
theorem shl8 {k : Nat} (h : k < 2 ^ 24) : nI k <<< ((8 : Int32) &&& 31) = nI (k * 256) := pk_shlN _ 8 (by decide) (by omega)
theorem and255 {k : Nat} (h : k < 2 ^ 32) : nI k &&& 255 = nI (k % 256) := pk_andN h 8 rfl
theorem nx_or8 {a b : Nat} (hb : b < 256) : nI (a * 256) ||| nI b = nI (a * 256 + b) := by
  apply Int32.toBitVec_inj.1
  show BitVec.ofNat 32 (a * 256) ||| BitVec.ofNat 32 b = BitVec.ofNat 32 (a * 256 + b)
  have e : a * 256 + b = (a <<< 8) ||| b := by
    rw [← Nat.shiftLeft_add_eq_or_of_lt (by omega : b < 2 ^ 8), Nat.shiftLeft_eq]
  rw [e, show a * 256 = a <<< 8 by rw [Nat.shiftLeft_eq]]
  apply BitVec.eq_of_getLsbD_eq
  intro i hi
  simp [hi]
theorem w_split {v : Int32} (h : wrd v) : ((v >>> ((8 : Int32) &&& 31)) <<< ((8 : Int32) &&& 31)) ||| (v &&& 255) = v ∧ oct (v >>> ((8 : Int32) &&& 31)) := by
  obtain ⟨k, hk, rfl⟩ := h
  rw [shr8 (by omega), shl8 (by omega), and255 (by omega), nx_or8 (Nat.mod_lt _ (by omega))]
  exact ⟨congrArg nI (by omega), k / 256, by omega, rfl⟩
theorem ROct.put1 {a b : Nat → Int32} (h : ROct a b) (j : Nat) {v : Int32} (hv : oct v) : ROct (u1f a j v) b := by
  intro k hk
  refine ⟨?_, (h k hk).2⟩
  unfold u1f
  by_cases e : k = j
  · rw [if_pos e]; exact hv
  · rw [if_neg e]; exact (h k hk).1
theorem ROct.put2 {a b : Nat → Int32} (h : ROct a b) (j : Nat) {v : Int32} (hv : oct v) : ROct a (u1f b j v) := by
  intro k hk
  refine ⟨(h k hk).1, ?_⟩
  unfold u1f
  by_cases e : k = j
  · rw [if_pos e]; exact hv
  · rw [if_neg e]; exact (h k hk).2
theorem wrd_of {v : Int32} (h0 : ¬ v < 0) (h1 : ¬ (65535 : Int32) < v) : wrd v := by
  obtain ⟨j, hj, e⟩ := nat_of_le (n := 65535) rfl (by omega) h0 h1
  exact ⟨j, hj, e⟩
theorem oct_of {v : Int32} (h0 : ¬ v < 0) (h1 : ¬ (255 : Int32) < v) : oct v := by
  obtain ⟨j, hj, e⟩ := nat_of_le (n := 255) rfl (by omega) h0 h1
  exact ⟨j, hj, e⟩
theorem bit1_of {v : Int32} (h0 : ¬ v < 0) (h1 : ¬ (1 : Int32) < v) : bit1 v := by
  obtain ⟨j, hj, rfl⟩ := nat_of_le (n := 1) rfl (by omega) h0 h1
  rcases (show j = 0 ∨ j = 1 by omega) with rfl | rfl
  · exact Or.inl rfl
  · exact Or.inr rfl
theorem tri_of {v : Int32} (h0 : ¬ v < 0) (h1 : ¬ (2 : Int32) < v) : v = 0 ∨ v = 1 ∨ v = 2 := by
  obtain ⟨j, hj, rfl⟩ := nat_of_le (n := 2) rfl (by omega) h0 h1
  rcases (show j = 0 ∨ j = 1 ∨ j = 2 by omega) with rfl | rfl | rfl
  · exact Or.inl rfl
  · exact Or.inr (Or.inl rfl)
  · exact Or.inr (Or.inr rfl)
theorem ok_set : Ok_set Rel := by
  intro c r hR a0 a1
  have hG := hR.2.2.2.2.2.2.1
  by_cases h0 : a0 < 0
  · exact ⟨-1, c, r, fun Q h => by simp (config := { decide := true }) only [OF_set, Machine_mostOf, if_pos h0]; exact h, fun Q h => by simp only [MO_set, if_pos h0]; exact h, hR⟩
  have hw : (16 : Int32) < a0 ↔ ¬ a0 < 17 := by rw [i32_ltN (K := 16) (k := 16) rfl (by omega)]; exact Iff.rfl
  by_cases h1 : a0 < 17
  · have h1' : ¬ (16 : Int32) < a0 := fun h => (hw.mp h) h1
    have hat := fun Q h => MO_at_ok hG h0 h1 Q h
    by_cases h2 : a1 < 0
    · refine ⟨-2, c, r, fun Q h => ?_, fun Q h => ?_, hR⟩
      · rcases c_17 h0 h1 with rfl | rfl | rfl | rfl | rfl | rfl | rfl | rfl | rfl | rfl | rfl | rfl | rfl | rfl | rfl | rfl | rfl <;> simp (config := { decide := true }) only [OF_set, Machine_mostOf, if_pos h2, if_true, if_false] <;> exact h
      · rcases c_17 h0 h1 with rfl | rfl | rfl | rfl | rfl | rfl | rfl | rfl | rfl | rfl | rfl | rfl | rfl | rfl | rfl | rfl | rfl <;> simp (config := { decide := true }) only [MO_set, MO_set_46, if_pos h2, if_true, if_false] <;> exact h
    rcases c_17 h0 h1 with rfl | rfl | rfl | rfl | rfl | rfl | rfl | rfl | rfl | rfl | rfl | rfl | rfl | rfl | rfl | rfl | rfl
    · by_cases h3 : (65535 : Int32) < a1
      · exact ⟨-2, c, r, fun Q h => by simp (config := { decide := true }) only [OF_set, Machine_mostOf, if_neg h2, if_pos h3, if_true, if_false]; exact h, fun Q h => by simp (config := { decide := true }) only [MO_set, MO_set_46, if_neg h2, if_pos h3, if_true, if_false]; exact h, hR⟩
      refine ⟨gA c 39 0, sA c 39 0 a1, sA (sA r 65 7 (a1 >>> ((8 : Int32) &&& 31))) 65 6 (a1 &&& 255), fun Q h => ?_, fun Q h => ?_, ?_⟩
      · simp (config := { decide := true }) only [OF_set, Machine_mostOf, Machine_changeRegister, Machine_registerAt, if_neg h2, if_neg h3, bnd_iff, if_true, if_false]
        exact ⟨by decide, by decide, h⟩
      · simp (config := { decide := true }) only [MO_set, MO_set_46, if_neg h2, if_neg h3, bnd_iff, if_true, if_false]
        refine hat _ ?_
        try simp (config := { decide := true }) only [MO_setTwo, bnd_iff, if_true, if_false]
        first | exact h | exact ⟨by decide, h⟩ | exact ⟨by decide, by decide, h⟩
      · obtain ⟨q1, q2, q3, q4, q5, q6, ⟨g, g0, g1, g2, g3, g4, g5, g6, g7, g8, g9, g10, g11, g12, g13, g14, g15, g16⟩, q8, q9⟩ := hR
        unfold Rel RTold RReg RReq
        simp only [gA_sA, gA_sA_ne, gA_sF, gA_sG, gA_sL, gF_sA, gF_sF, gF_sF_ne, gF_sG, gF_sL, gG_sA, gG_sF, gG_sL, gG_sGe, gG_sG_ne, gL_sA, gL_sF, gL_sG, gL_sLe, gL_sL_ne, u1f_eq, u1f_ne, bnd_iff, not_false_eq_true, Nat.reduceEqDiff]
        have hv := wrd_of h2 h3
        have hs := w_split hv
        exact ⟨q1, q2, q3, q4, q5, q6, ⟨(g.put1 _ hs.2).put1 _ (oct_and _), hs.1.symm, g1, g2, g3, g4, g5, g6, g7, g8, g9, g10, g11, g12, g13, g14, g15, g16⟩, q8, q9⟩
    · by_cases h3 : (65535 : Int32) < a1
      · exact ⟨-2, c, r, fun Q h => by simp (config := { decide := true }) only [OF_set, Machine_mostOf, if_neg h2, if_pos h3, if_true, if_false]; exact h, fun Q h => by simp (config := { decide := true }) only [MO_set, MO_set_46, if_neg h2, if_pos h3, if_true, if_false]; exact h, hR⟩
      refine ⟨gA c 39 1, sA c 39 1 a1, sA (sA r 65 0 ((a1 >>> ((8 : Int32) &&& 31)) &&& 255)) 65 1 (a1 &&& 255), fun Q h => ?_, fun Q h => ?_, ?_⟩
      · simp (config := { decide := true }) only [OF_set, Machine_mostOf, Machine_changeRegister, Machine_registerAt, if_neg h2, if_neg h3, bnd_iff, if_true, if_false]
        exact ⟨by decide, by decide, h⟩
      · simp (config := { decide := true }) only [MO_set, MO_set_46, if_neg h2, if_neg h3, bnd_iff, if_true, if_false]
        refine hat _ ?_
        try simp (config := { decide := true }) only [MO_setTwo, bnd_iff, if_true, if_false]
        first | exact h | exact ⟨by decide, h⟩ | exact ⟨by decide, by decide, h⟩
      · obtain ⟨q1, q2, q3, q4, q5, q6, ⟨g, g0, g1, g2, g3, g4, g5, g6, g7, g8, g9, g10, g11, g12, g13, g14, g15, g16⟩, q8, q9⟩ := hR
        unfold Rel RTold RReg RReq
        simp only [gA_sA, gA_sA_ne, gA_sF, gA_sG, gA_sL, gF_sA, gF_sF, gF_sF_ne, gF_sG, gF_sL, gG_sA, gG_sF, gG_sL, gG_sGe, gG_sG_ne, gL_sA, gL_sF, gL_sG, gL_sLe, gL_sL_ne, u1f_eq, u1f_ne, bnd_iff, not_false_eq_true, Nat.reduceEqDiff]
        have hv := wrd_of h2 h3
        have hs := w_split hv
        rw [hs.2.and]
        exact ⟨q1, q2, q3, q4, q5, q6, ⟨(g.put1 _ hs.2).put1 _ (oct_and _), g0, hs.1.symm, g2, g3, g4, g5, g6, g7, g8, g9, g10, g11, g12, g13, g14, g15, g16⟩, q8, q9⟩
    · by_cases h3 : (65535 : Int32) < a1
      · exact ⟨-2, c, r, fun Q h => by simp (config := { decide := true }) only [OF_set, Machine_mostOf, if_neg h2, if_pos h3, if_true, if_false]; exact h, fun Q h => by simp (config := { decide := true }) only [MO_set, MO_set_46, if_neg h2, if_pos h3, if_true, if_false]; exact h, hR⟩
      refine ⟨gA c 39 2, sA c 39 2 a1, sA (sA r 65 2 ((a1 >>> ((8 : Int32) &&& 31)) &&& 255)) 65 3 (a1 &&& 255), fun Q h => ?_, fun Q h => ?_, ?_⟩
      · simp (config := { decide := true }) only [OF_set, Machine_mostOf, Machine_changeRegister, Machine_registerAt, if_neg h2, if_neg h3, bnd_iff, if_true, if_false]
        exact ⟨by decide, by decide, h⟩
      · simp (config := { decide := true }) only [MO_set, MO_set_46, if_neg h2, if_neg h3, bnd_iff, if_true, if_false]
        refine hat _ ?_
        try simp (config := { decide := true }) only [MO_setTwo, bnd_iff, if_true, if_false]
        first | exact h | exact ⟨by decide, h⟩ | exact ⟨by decide, by decide, h⟩
      · obtain ⟨q1, q2, q3, q4, q5, q6, ⟨g, g0, g1, g2, g3, g4, g5, g6, g7, g8, g9, g10, g11, g12, g13, g14, g15, g16⟩, q8, q9⟩ := hR
        unfold Rel RTold RReg RReq
        simp only [gA_sA, gA_sA_ne, gA_sF, gA_sG, gA_sL, gF_sA, gF_sF, gF_sF_ne, gF_sG, gF_sL, gG_sA, gG_sF, gG_sL, gG_sGe, gG_sG_ne, gL_sA, gL_sF, gL_sG, gL_sLe, gL_sL_ne, u1f_eq, u1f_ne, bnd_iff, not_false_eq_true, Nat.reduceEqDiff]
        have hv := wrd_of h2 h3
        have hs := w_split hv
        rw [hs.2.and]
        exact ⟨q1, q2, q3, q4, q5, q6, ⟨(g.put1 _ hs.2).put1 _ (oct_and _), g0, g1, hs.1.symm, g3, g4, g5, g6, g7, g8, g9, g10, g11, g12, g13, g14, g15, g16⟩, q8, q9⟩
    · by_cases h3 : (65535 : Int32) < a1
      · exact ⟨-2, c, r, fun Q h => by simp (config := { decide := true }) only [OF_set, Machine_mostOf, if_neg h2, if_pos h3, if_true, if_false]; exact h, fun Q h => by simp (config := { decide := true }) only [MO_set, MO_set_46, if_neg h2, if_pos h3, if_true, if_false]; exact h, hR⟩
      refine ⟨gA c 39 3, sA c 39 3 a1, sA (sA r 65 4 ((a1 >>> ((8 : Int32) &&& 31)) &&& 255)) 65 5 (a1 &&& 255), fun Q h => ?_, fun Q h => ?_, ?_⟩
      · simp (config := { decide := true }) only [OF_set, Machine_mostOf, Machine_changeRegister, Machine_registerAt, if_neg h2, if_neg h3, bnd_iff, if_true, if_false]
        exact ⟨by decide, by decide, h⟩
      · simp (config := { decide := true }) only [MO_set, MO_set_46, if_neg h2, if_neg h3, bnd_iff, if_true, if_false]
        refine hat _ ?_
        try simp (config := { decide := true }) only [MO_setTwo, bnd_iff, if_true, if_false]
        first | exact h | exact ⟨by decide, h⟩ | exact ⟨by decide, by decide, h⟩
      · obtain ⟨q1, q2, q3, q4, q5, q6, ⟨g, g0, g1, g2, g3, g4, g5, g6, g7, g8, g9, g10, g11, g12, g13, g14, g15, g16⟩, q8, q9⟩ := hR
        unfold Rel RTold RReg RReq
        simp only [gA_sA, gA_sA_ne, gA_sF, gA_sG, gA_sL, gF_sA, gF_sF, gF_sF_ne, gF_sG, gF_sL, gG_sA, gG_sF, gG_sL, gG_sGe, gG_sG_ne, gL_sA, gL_sF, gL_sG, gL_sLe, gL_sL_ne, u1f_eq, u1f_ne, bnd_iff, not_false_eq_true, Nat.reduceEqDiff]
        have hv := wrd_of h2 h3
        have hs := w_split hv
        rw [hs.2.and]
        exact ⟨q1, q2, q3, q4, q5, q6, ⟨(g.put1 _ hs.2).put1 _ (oct_and _), g0, g1, g2, hs.1.symm, g4, g5, g6, g7, g8, g9, g10, g11, g12, g13, g14, g15, g16⟩, q8, q9⟩
    · by_cases h3 : (65535 : Int32) < a1
      · exact ⟨-2, c, r, fun Q h => by simp (config := { decide := true }) only [OF_set, Machine_mostOf, if_neg h2, if_pos h3, if_true, if_false]; exact h, fun Q h => by simp (config := { decide := true }) only [MO_set, MO_set_46, if_neg h2, if_pos h3, if_true, if_false]; exact h, hR⟩
      refine ⟨gA c 39 4, sA c 39 4 a1, sA (sA r 66 7 (a1 >>> ((8 : Int32) &&& 31))) 66 6 (a1 &&& 255), fun Q h => ?_, fun Q h => ?_, ?_⟩
      · simp (config := { decide := true }) only [OF_set, Machine_mostOf, Machine_changeRegister, Machine_registerAt, if_neg h2, if_neg h3, bnd_iff, if_true, if_false]
        exact ⟨by decide, by decide, h⟩
      · simp (config := { decide := true }) only [MO_set, MO_set_46, if_neg h2, if_neg h3, bnd_iff, if_true, if_false]
        refine hat _ ?_
        try simp (config := { decide := true }) only [MO_setTwo, bnd_iff, if_true, if_false]
        first | exact h | exact ⟨by decide, h⟩ | exact ⟨by decide, by decide, h⟩
      · obtain ⟨q1, q2, q3, q4, q5, q6, ⟨g, g0, g1, g2, g3, g4, g5, g6, g7, g8, g9, g10, g11, g12, g13, g14, g15, g16⟩, q8, q9⟩ := hR
        unfold Rel RTold RReg RReq
        simp only [gA_sA, gA_sA_ne, gA_sF, gA_sG, gA_sL, gF_sA, gF_sF, gF_sF_ne, gF_sG, gF_sL, gG_sA, gG_sF, gG_sL, gG_sGe, gG_sG_ne, gL_sA, gL_sF, gL_sG, gL_sLe, gL_sL_ne, u1f_eq, u1f_ne, bnd_iff, not_false_eq_true, Nat.reduceEqDiff]
        have hv := wrd_of h2 h3
        have hs := w_split hv
        exact ⟨q1, q2, q3, q4, q5, q6, ⟨(g.put2 _ hs.2).put2 _ (oct_and _), g0, g1, g2, g3, hs.1.symm, g5, g6, g7, g8, g9, g10, g11, g12, g13, g14, g15, g16⟩, q8, q9⟩
    · by_cases h3 : (65535 : Int32) < a1
      · exact ⟨-2, c, r, fun Q h => by simp (config := { decide := true }) only [OF_set, Machine_mostOf, if_neg h2, if_pos h3, if_true, if_false]; exact h, fun Q h => by simp (config := { decide := true }) only [MO_set, MO_set_46, if_neg h2, if_pos h3, if_true, if_false]; exact h, hR⟩
      refine ⟨gA c 39 5, sA c 39 5 a1, sA (sA r 66 0 (a1 >>> ((8 : Int32) &&& 31))) 66 1 (a1 &&& 255), fun Q h => ?_, fun Q h => ?_, ?_⟩
      · simp (config := { decide := true }) only [OF_set, Machine_mostOf, Machine_changeRegister, Machine_registerAt, if_neg h2, if_neg h3, bnd_iff, if_true, if_false]
        exact ⟨by decide, by decide, h⟩
      · simp (config := { decide := true }) only [MO_set, MO_set_46, if_neg h2, if_neg h3, bnd_iff, if_true, if_false]
        refine hat _ ?_
        try simp (config := { decide := true }) only [MO_setTwo, bnd_iff, if_true, if_false]
        first | exact h | exact ⟨by decide, h⟩ | exact ⟨by decide, by decide, h⟩
      · obtain ⟨q1, q2, q3, q4, q5, q6, ⟨g, g0, g1, g2, g3, g4, g5, g6, g7, g8, g9, g10, g11, g12, g13, g14, g15, g16⟩, q8, q9⟩ := hR
        unfold Rel RTold RReg RReq
        simp only [gA_sA, gA_sA_ne, gA_sF, gA_sG, gA_sL, gF_sA, gF_sF, gF_sF_ne, gF_sG, gF_sL, gG_sA, gG_sF, gG_sL, gG_sGe, gG_sG_ne, gL_sA, gL_sF, gL_sG, gL_sLe, gL_sL_ne, u1f_eq, u1f_ne, bnd_iff, not_false_eq_true, Nat.reduceEqDiff]
        have hv := wrd_of h2 h3
        have hs := w_split hv
        exact ⟨q1, q2, q3, q4, q5, q6, ⟨(g.put2 _ hs.2).put2 _ (oct_and _), g0, g1, g2, g3, g4, hs.1.symm, g6, g7, g8, g9, g10, g11, g12, g13, g14, g15, g16⟩, q8, q9⟩
    · by_cases h3 : (65535 : Int32) < a1
      · exact ⟨-2, c, r, fun Q h => by simp (config := { decide := true }) only [OF_set, Machine_mostOf, if_neg h2, if_pos h3, if_true, if_false]; exact h, fun Q h => by simp (config := { decide := true }) only [MO_set, MO_set_46, if_neg h2, if_pos h3, if_true, if_false]; exact h, hR⟩
      refine ⟨gA c 39 6, sA c 39 6 a1, sA (sA r 66 2 (a1 >>> ((8 : Int32) &&& 31))) 66 3 (a1 &&& 255), fun Q h => ?_, fun Q h => ?_, ?_⟩
      · simp (config := { decide := true }) only [OF_set, Machine_mostOf, Machine_changeRegister, Machine_registerAt, if_neg h2, if_neg h3, bnd_iff, if_true, if_false]
        exact ⟨by decide, by decide, h⟩
      · simp (config := { decide := true }) only [MO_set, MO_set_46, if_neg h2, if_neg h3, bnd_iff, if_true, if_false]
        refine hat _ ?_
        try simp (config := { decide := true }) only [MO_setTwo, bnd_iff, if_true, if_false]
        first | exact h | exact ⟨by decide, h⟩ | exact ⟨by decide, by decide, h⟩
      · obtain ⟨q1, q2, q3, q4, q5, q6, ⟨g, g0, g1, g2, g3, g4, g5, g6, g7, g8, g9, g10, g11, g12, g13, g14, g15, g16⟩, q8, q9⟩ := hR
        unfold Rel RTold RReg RReq
        simp only [gA_sA, gA_sA_ne, gA_sF, gA_sG, gA_sL, gF_sA, gF_sF, gF_sF_ne, gF_sG, gF_sL, gG_sA, gG_sF, gG_sL, gG_sGe, gG_sG_ne, gL_sA, gL_sF, gL_sG, gL_sLe, gL_sL_ne, u1f_eq, u1f_ne, bnd_iff, not_false_eq_true, Nat.reduceEqDiff]
        have hv := wrd_of h2 h3
        have hs := w_split hv
        exact ⟨q1, q2, q3, q4, q5, q6, ⟨(g.put2 _ hs.2).put2 _ (oct_and _), g0, g1, g2, g3, g4, g5, hs.1.symm, g7, g8, g9, g10, g11, g12, g13, g14, g15, g16⟩, q8, q9⟩
    · by_cases h3 : (65535 : Int32) < a1
      · exact ⟨-2, c, r, fun Q h => by simp (config := { decide := true }) only [OF_set, Machine_mostOf, if_neg h2, if_pos h3, if_true, if_false]; exact h, fun Q h => by simp (config := { decide := true }) only [MO_set, MO_set_46, if_neg h2, if_pos h3, if_true, if_false]; exact h, hR⟩
      refine ⟨gA c 39 7, sA c 39 7 a1, sA (sA r 66 4 (a1 >>> ((8 : Int32) &&& 31))) 66 5 (a1 &&& 255), fun Q h => ?_, fun Q h => ?_, ?_⟩
      · simp (config := { decide := true }) only [OF_set, Machine_mostOf, Machine_changeRegister, Machine_registerAt, if_neg h2, if_neg h3, bnd_iff, if_true, if_false]
        exact ⟨by decide, by decide, h⟩
      · simp (config := { decide := true }) only [MO_set, MO_set_46, if_neg h2, if_neg h3, bnd_iff, if_true, if_false]
        refine hat _ ?_
        try simp (config := { decide := true }) only [MO_setTwo, bnd_iff, if_true, if_false]
        first | exact h | exact ⟨by decide, h⟩ | exact ⟨by decide, by decide, h⟩
      · obtain ⟨q1, q2, q3, q4, q5, q6, ⟨g, g0, g1, g2, g3, g4, g5, g6, g7, g8, g9, g10, g11, g12, g13, g14, g15, g16⟩, q8, q9⟩ := hR
        unfold Rel RTold RReg RReq
        simp only [gA_sA, gA_sA_ne, gA_sF, gA_sG, gA_sL, gF_sA, gF_sF, gF_sF_ne, gF_sG, gF_sL, gG_sA, gG_sF, gG_sL, gG_sGe, gG_sG_ne, gL_sA, gL_sF, gL_sG, gL_sLe, gL_sL_ne, u1f_eq, u1f_ne, bnd_iff, not_false_eq_true, Nat.reduceEqDiff]
        have hv := wrd_of h2 h3
        have hs := w_split hv
        exact ⟨q1, q2, q3, q4, q5, q6, ⟨(g.put2 _ hs.2).put2 _ (oct_and _), g0, g1, g2, g3, g4, g5, g6, hs.1.symm, g8, g9, g10, g11, g12, g13, g14, g15, g16⟩, q8, q9⟩
    · by_cases h3 : (65535 : Int32) < a1
      · exact ⟨-2, c, r, fun Q h => by simp (config := { decide := true }) only [OF_set, Machine_mostOf, if_neg h2, if_pos h3, if_true, if_false]; exact h, fun Q h => by simp (config := { decide := true }) only [MO_set, MO_set_46, if_neg h2, if_pos h3, if_true, if_false]; exact h, hR⟩
      refine ⟨gA c 39 8, sA c 39 8 a1, sA r 67 1 a1, fun Q h => ?_, fun Q h => ?_, ?_⟩
      · simp (config := { decide := true }) only [OF_set, Machine_mostOf, Machine_changeRegister, Machine_registerAt, if_neg h2, if_neg h3, bnd_iff, if_true, if_false]
        exact ⟨by decide, by decide, h⟩
      · simp (config := { decide := true }) only [MO_set, MO_set_46, if_neg h2, if_neg h3, bnd_iff, if_true, if_false]
        refine hat _ ?_
        try simp (config := { decide := true }) only [MO_setTwo, bnd_iff, if_true, if_false]
        first | exact h | exact ⟨by decide, h⟩ | exact ⟨by decide, by decide, h⟩
      · obtain ⟨q1, q2, q3, q4, q5, q6, ⟨g, g0, g1, g2, g3, g4, g5, g6, g7, g8, g9, g10, g11, g12, g13, g14, g15, g16⟩, q8, q9⟩ := hR
        unfold Rel RTold RReg RReq
        simp only [gA_sA, gA_sA_ne, gA_sF, gA_sG, gA_sL, gF_sA, gF_sF, gF_sF_ne, gF_sG, gF_sL, gG_sA, gG_sF, gG_sL, gG_sGe, gG_sG_ne, gL_sA, gL_sF, gL_sG, gL_sLe, gL_sL_ne, u1f_eq, u1f_ne, bnd_iff, not_false_eq_true, Nat.reduceEqDiff]
        exact ⟨q1, q2, q3, q4, q5, q6, ⟨g, g0, g1, g2, g3, g4, g5, g6, g7, ⟨trivial, wrd_of h2 h3⟩, g9, g10, g11, g12, g13, g14, g15, g16⟩, q8, q9⟩
    · by_cases h3 : (65535 : Int32) < a1
      · exact ⟨-2, c, r, fun Q h => by simp (config := { decide := true }) only [OF_set, Machine_mostOf, if_neg h2, if_pos h3, if_true, if_false]; exact h, fun Q h => by simp (config := { decide := true }) only [MO_set, MO_set_46, if_neg h2, if_pos h3, if_true, if_false]; exact h, hR⟩
      refine ⟨gA c 39 9, sA c 39 9 a1, sA r 67 2 a1, fun Q h => ?_, fun Q h => ?_, ?_⟩
      · simp (config := { decide := true }) only [OF_set, Machine_mostOf, Machine_changeRegister, Machine_registerAt, if_neg h2, if_neg h3, bnd_iff, if_true, if_false]
        exact ⟨by decide, by decide, h⟩
      · simp (config := { decide := true }) only [MO_set, MO_set_46, if_neg h2, if_neg h3, bnd_iff, if_true, if_false]
        refine hat _ ?_
        try simp (config := { decide := true }) only [MO_setTwo, bnd_iff, if_true, if_false]
        first | exact h | exact ⟨by decide, h⟩ | exact ⟨by decide, by decide, h⟩
      · obtain ⟨q1, q2, q3, q4, q5, q6, ⟨g, g0, g1, g2, g3, g4, g5, g6, g7, g8, g9, g10, g11, g12, g13, g14, g15, g16⟩, q8, q9⟩ := hR
        unfold Rel RTold RReg RReq
        simp only [gA_sA, gA_sA_ne, gA_sF, gA_sG, gA_sL, gF_sA, gF_sF, gF_sF_ne, gF_sG, gF_sL, gG_sA, gG_sF, gG_sL, gG_sGe, gG_sG_ne, gL_sA, gL_sF, gL_sG, gL_sLe, gL_sL_ne, u1f_eq, u1f_ne, bnd_iff, not_false_eq_true, Nat.reduceEqDiff]
        exact ⟨q1, q2, q3, q4, q5, q6, ⟨g, g0, g1, g2, g3, g4, g5, g6, g7, g8, ⟨trivial, wrd_of h2 h3⟩, g10, g11, g12, g13, g14, g15, g16⟩, q8, q9⟩
    · by_cases h3 : (65535 : Int32) < a1
      · exact ⟨-2, c, r, fun Q h => by simp (config := { decide := true }) only [OF_set, Machine_mostOf, if_neg h2, if_pos h3, if_true, if_false]; exact h, fun Q h => by simp (config := { decide := true }) only [MO_set, MO_set_46, if_neg h2, if_pos h3, if_true, if_false]; exact h, hR⟩
      refine ⟨gA c 39 10, sA c 39 10 a1, sF r 42 75 a1, fun Q h => ?_, fun Q h => ?_, ?_⟩
      · simp (config := { decide := true }) only [OF_set, Machine_mostOf, Machine_changeRegister, Machine_registerAt, if_neg h2, if_neg h3, bnd_iff, if_true, if_false]
        exact ⟨by decide, by decide, h⟩
      · simp (config := { decide := true }) only [MO_set, MO_set_46, if_neg h2, if_neg h3, bnd_iff, if_true, if_false]
        refine hat _ ?_
        try simp (config := { decide := true }) only [MO_setTwo, bnd_iff, if_true, if_false]
        first | exact h | exact ⟨by decide, h⟩ | exact ⟨by decide, by decide, h⟩
      · obtain ⟨q1, q2, q3, q4, q5, q6, ⟨g, g0, g1, g2, g3, g4, g5, g6, g7, g8, g9, g10, g11, g12, g13, g14, g15, g16⟩, q8, q9⟩ := hR
        unfold Rel RTold RReg RReq
        simp only [gA_sA, gA_sA_ne, gA_sF, gA_sG, gA_sL, gF_sA, gF_sF, gF_sF_ne, gF_sG, gF_sL, gG_sA, gG_sF, gG_sL, gG_sGe, gG_sG_ne, gL_sA, gL_sF, gL_sG, gL_sLe, gL_sL_ne, u1f_eq, u1f_ne, bnd_iff, not_false_eq_true, Nat.reduceEqDiff]
        exact ⟨q1, q2, q3, q4, q5, q6, ⟨g, g0, g1, g2, g3, g4, g5, g6, g7, g8, g9, ⟨trivial, wrd_of h2 h3⟩, g11, g12, g13, g14, g15, g16⟩, q8, q9⟩
    · by_cases h3 : (65535 : Int32) < a1
      · exact ⟨-2, c, r, fun Q h => by simp (config := { decide := true }) only [OF_set, Machine_mostOf, if_neg h2, if_pos h3, if_true, if_false]; exact h, fun Q h => by simp (config := { decide := true }) only [MO_set, MO_set_46, if_neg h2, if_pos h3, if_true, if_false]; exact h, hR⟩
      refine ⟨gA c 39 11, sA c 39 11 a1, sF r 42 76 a1, fun Q h => ?_, fun Q h => ?_, ?_⟩
      · simp (config := { decide := true }) only [OF_set, Machine_mostOf, Machine_changeRegister, Machine_registerAt, if_neg h2, if_neg h3, bnd_iff, if_true, if_false]
        exact ⟨by decide, by decide, h⟩
      · simp (config := { decide := true }) only [MO_set, MO_set_46, if_neg h2, if_neg h3, bnd_iff, if_true, if_false]
        refine hat _ ?_
        try simp (config := { decide := true }) only [MO_setTwo, bnd_iff, if_true, if_false]
        first | exact h | exact ⟨by decide, h⟩ | exact ⟨by decide, by decide, h⟩
      · obtain ⟨q1, q2, q3, q4, q5, q6, ⟨g, g0, g1, g2, g3, g4, g5, g6, g7, g8, g9, g10, g11, g12, g13, g14, g15, g16⟩, q8, q9⟩ := hR
        unfold Rel RTold RReg RReq
        simp only [gA_sA, gA_sA_ne, gA_sF, gA_sG, gA_sL, gF_sA, gF_sF, gF_sF_ne, gF_sG, gF_sL, gG_sA, gG_sF, gG_sL, gG_sGe, gG_sG_ne, gL_sA, gL_sF, gL_sG, gL_sLe, gL_sL_ne, u1f_eq, u1f_ne, bnd_iff, not_false_eq_true, Nat.reduceEqDiff]
        exact ⟨q1, q2, q3, q4, q5, q6, ⟨g, g0, g1, g2, g3, g4, g5, g6, g7, g8, g9, g10, ⟨trivial, wrd_of h2 h3⟩, g12, g13, g14, g15, g16⟩, q8, q9⟩
    · by_cases h3 : (255 : Int32) < a1
      · exact ⟨-2, c, r, fun Q h => by simp (config := { decide := true }) only [OF_set, Machine_mostOf, if_neg h2, if_pos h3, if_true, if_false]; exact h, fun Q h => by simp (config := { decide := true }) only [MO_set, MO_set_46, if_neg h2, if_pos h3, if_true, if_false]; exact h, hR⟩
      refine ⟨gA c 39 12, sA c 39 12 a1, sF r 42 72 a1, fun Q h => ?_, fun Q h => ?_, ?_⟩
      · simp (config := { decide := true }) only [OF_set, Machine_mostOf, Machine_changeRegister, Machine_registerAt, if_neg h2, if_neg h3, bnd_iff, if_true, if_false]
        exact ⟨by decide, by decide, h⟩
      · simp (config := { decide := true }) only [MO_set, MO_set_46, if_neg h2, if_neg h3, bnd_iff, if_true, if_false]
        refine hat _ ?_
        try simp (config := { decide := true }) only [MO_setTwo, bnd_iff, if_true, if_false]
        first | exact h | exact ⟨by decide, h⟩ | exact ⟨by decide, by decide, h⟩
      · obtain ⟨q1, q2, q3, q4, q5, q6, ⟨g, g0, g1, g2, g3, g4, g5, g6, g7, g8, g9, g10, g11, g12, g13, g14, g15, g16⟩, q8, q9⟩ := hR
        unfold Rel RTold RReg RReq
        simp only [gA_sA, gA_sA_ne, gA_sF, gA_sG, gA_sL, gF_sA, gF_sF, gF_sF_ne, gF_sG, gF_sL, gG_sA, gG_sF, gG_sL, gG_sGe, gG_sG_ne, gL_sA, gL_sF, gL_sG, gL_sLe, gL_sL_ne, u1f_eq, u1f_ne, bnd_iff, not_false_eq_true, Nat.reduceEqDiff]
        exact ⟨q1, q2, q3, q4, q5, q6, ⟨g, g0, g1, g2, g3, g4, g5, g6, g7, g8, g9, g10, g11, ⟨trivial, oct_of h2 h3⟩, g13, g14, g15, g16⟩, q8, q9⟩
    · by_cases h3 : (255 : Int32) < a1
      · exact ⟨-2, c, r, fun Q h => by simp (config := { decide := true }) only [OF_set, Machine_mostOf, if_neg h2, if_pos h3, if_true, if_false]; exact h, fun Q h => by simp (config := { decide := true }) only [MO_set, MO_set_46, if_neg h2, if_pos h3, if_true, if_false]; exact h, hR⟩
      refine ⟨gA c 39 13, sA c 39 13 a1, sF r 42 73 a1, fun Q h => ?_, fun Q h => ?_, ?_⟩
      · simp (config := { decide := true }) only [OF_set, Machine_mostOf, Machine_changeRegister, Machine_registerAt, if_neg h2, if_neg h3, bnd_iff, if_true, if_false]
        exact ⟨by decide, by decide, h⟩
      · simp (config := { decide := true }) only [MO_set, MO_set_46, if_neg h2, if_neg h3, bnd_iff, if_true, if_false]
        refine hat _ ?_
        try simp (config := { decide := true }) only [MO_setTwo, bnd_iff, if_true, if_false]
        first | exact h | exact ⟨by decide, h⟩ | exact ⟨by decide, by decide, h⟩
      · obtain ⟨q1, q2, q3, q4, q5, q6, ⟨g, g0, g1, g2, g3, g4, g5, g6, g7, g8, g9, g10, g11, g12, g13, g14, g15, g16⟩, q8, q9⟩ := hR
        unfold Rel RTold RReg RReq
        simp only [gA_sA, gA_sA_ne, gA_sF, gA_sG, gA_sL, gF_sA, gF_sF, gF_sF_ne, gF_sG, gF_sL, gG_sA, gG_sF, gG_sL, gG_sGe, gG_sG_ne, gL_sA, gL_sF, gL_sG, gL_sLe, gL_sL_ne, u1f_eq, u1f_ne, bnd_iff, not_false_eq_true, Nat.reduceEqDiff]
        exact ⟨q1, q2, q3, q4, q5, q6, ⟨g, g0, g1, g2, g3, g4, g5, g6, g7, g8, g9, g10, g11, g12, ⟨trivial, oct_of h2 h3⟩, g14, g15, g16⟩, q8, q9⟩
    · by_cases h3 : (1 : Int32) < a1
      · exact ⟨-2, c, r, fun Q h => by simp (config := { decide := true }) only [OF_set, Machine_mostOf, if_neg h2, if_pos h3, if_true, if_false]; exact h, fun Q h => by simp (config := { decide := true }) only [MO_set, MO_set_46, if_neg h2, if_pos h3, if_true, if_false]; exact h, hR⟩
      refine ⟨gA c 39 14, sA c 39 14 a1, sF r 42 77 a1, fun Q h => ?_, fun Q h => ?_, ?_⟩
      · simp (config := { decide := true }) only [OF_set, Machine_mostOf, Machine_changeRegister, Machine_registerAt, if_neg h2, if_neg h3, bnd_iff, if_true, if_false]
        exact ⟨by decide, by decide, h⟩
      · simp (config := { decide := true }) only [MO_set, MO_set_46, if_neg h2, if_neg h3, bnd_iff, if_true, if_false]
        refine hat _ ?_
        try simp (config := { decide := true }) only [MO_setTwo, bnd_iff, if_true, if_false]
        first | exact h | exact ⟨by decide, h⟩ | exact ⟨by decide, by decide, h⟩
      · obtain ⟨q1, q2, q3, q4, q5, q6, ⟨g, g0, g1, g2, g3, g4, g5, g6, g7, g8, g9, g10, g11, g12, g13, g14, g15, g16⟩, q8, q9⟩ := hR
        unfold Rel RTold RReg RReq
        simp only [gA_sA, gA_sA_ne, gA_sF, gA_sG, gA_sL, gF_sA, gF_sF, gF_sF_ne, gF_sG, gF_sL, gG_sA, gG_sF, gG_sL, gG_sGe, gG_sG_ne, gL_sA, gL_sF, gL_sG, gL_sLe, gL_sL_ne, u1f_eq, u1f_ne, bnd_iff, not_false_eq_true, Nat.reduceEqDiff]
        exact ⟨q1, q2, q3, q4, q5, q6, ⟨g, g0, g1, g2, g3, g4, g5, g6, g7, g8, g9, g10, g11, g12, g13, ⟨trivial, bit1_of h2 h3⟩, g15, g16⟩, q8, q9⟩
    · by_cases h3 : (1 : Int32) < a1
      · exact ⟨-2, c, r, fun Q h => by simp (config := { decide := true }) only [OF_set, Machine_mostOf, if_neg h2, if_pos h3, if_true, if_false]; exact h, fun Q h => by simp (config := { decide := true }) only [MO_set, MO_set_46, if_neg h2, if_pos h3, if_true, if_false]; exact h, hR⟩
      refine ⟨gA c 39 15, sA c 39 15 a1, sF r 42 78 a1, fun Q h => ?_, fun Q h => ?_, ?_⟩
      · simp (config := { decide := true }) only [OF_set, Machine_mostOf, Machine_changeRegister, Machine_registerAt, if_neg h2, if_neg h3, bnd_iff, if_true, if_false]
        exact ⟨by decide, by decide, h⟩
      · simp (config := { decide := true }) only [MO_set, MO_set_46, if_neg h2, if_neg h3, bnd_iff, if_true, if_false]
        refine hat _ ?_
        try simp (config := { decide := true }) only [MO_setTwo, bnd_iff, if_true, if_false]
        first | exact h | exact ⟨by decide, h⟩ | exact ⟨by decide, by decide, h⟩
      · obtain ⟨q1, q2, q3, q4, q5, q6, ⟨g, g0, g1, g2, g3, g4, g5, g6, g7, g8, g9, g10, g11, g12, g13, g14, g15, g16⟩, q8, q9⟩ := hR
        unfold Rel RTold RReg RReq
        simp only [gA_sA, gA_sA_ne, gA_sF, gA_sG, gA_sL, gF_sA, gF_sF, gF_sF_ne, gF_sG, gF_sL, gG_sA, gG_sF, gG_sL, gG_sGe, gG_sG_ne, gL_sA, gL_sF, gL_sG, gL_sLe, gL_sL_ne, u1f_eq, u1f_ne, bnd_iff, not_false_eq_true, Nat.reduceEqDiff]
        exact ⟨q1, q2, q3, q4, q5, q6, ⟨g, g0, g1, g2, g3, g4, g5, g6, g7, g8, g9, g10, g11, g12, g13, g14, ⟨trivial, bit1_of h2 h3⟩, g16⟩, q8, q9⟩
    · by_cases h3 : (2 : Int32) < a1
      · exact ⟨-2, c, r, fun Q h => by simp (config := { decide := true }) only [OF_set, Machine_mostOf, if_neg h2, if_pos h3, if_true, if_false]; exact h, fun Q h => by simp (config := { decide := true }) only [MO_set, MO_set_46, if_neg h2, if_pos h3, if_true, if_false]; exact h, hR⟩
      refine ⟨gA c 39 16, sA c 39 16 a1, sF r 42 79 a1, fun Q h => ?_, fun Q h => ?_, ?_⟩
      · simp (config := { decide := true }) only [OF_set, Machine_mostOf, Machine_changeRegister, Machine_registerAt, if_neg h2, if_neg h3, bnd_iff, if_true, if_false]
        exact ⟨by decide, by decide, h⟩
      · simp (config := { decide := true }) only [MO_set, MO_set_46, if_neg h2, if_neg h3, bnd_iff, if_true, if_false]
        refine hat _ ?_
        try simp (config := { decide := true }) only [MO_setTwo, bnd_iff, if_true, if_false]
        first | exact h | exact ⟨by decide, h⟩ | exact ⟨by decide, by decide, h⟩
      · obtain ⟨q1, q2, q3, q4, q5, q6, ⟨g, g0, g1, g2, g3, g4, g5, g6, g7, g8, g9, g10, g11, g12, g13, g14, g15, g16⟩, q8, q9⟩ := hR
        unfold Rel RTold RReg RReq
        simp only [gA_sA, gA_sA_ne, gA_sF, gA_sG, gA_sL, gF_sA, gF_sF, gF_sF_ne, gF_sG, gF_sL, gG_sA, gG_sF, gG_sL, gG_sGe, gG_sG_ne, gL_sA, gL_sF, gL_sG, gL_sLe, gL_sL_ne, u1f_eq, u1f_ne, bnd_iff, not_false_eq_true, Nat.reduceEqDiff]
        exact ⟨q1, q2, q3, q4, q5, q6, ⟨g, g0, g1, g2, g3, g4, g5, g6, g7, g8, g9, g10, g11, g12, g13, g14, g15, ⟨trivial, tri_of h2 h3⟩⟩, q8, q9⟩
  · exact ⟨-1, c, r, fun Q h => by simp (config := { decide := true }) only [OF_set, Machine_mostOf, if_neg h0, if_neg h1]; exact h, fun Q h => by simp only [MO_set, if_neg h0, if_pos (hw.mpr h1)]; exact h, hR⟩
