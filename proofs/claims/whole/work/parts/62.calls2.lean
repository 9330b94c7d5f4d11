/-! The calls request, register and set -/
theorem c_17 {x : Int32} (h0 : ¬ x < 0) (h1 : x < 17) : x = 0 ∨ x = 1 ∨ x = 2 ∨ x = 3 ∨ x = 4 ∨ x = 5 ∨ x = 6 ∨ x = 7 ∨ x = 8 ∨ x = 9 ∨ x = 10 ∨ x = 11 ∨ x = 12 ∨ x = 13 ∨ x = 14 ∨ x = 15 ∨ x = 16 := by
  obtain ⟨j, hj, rfl⟩ := nat_of (n := 17) rfl (by omega) h0 h1
  rcases (show j = 0 ∨ j = 1 ∨ j = 2 ∨ j = 3 ∨ j = 4 ∨ j = 5 ∨ j = 6 ∨ j = 7 ∨ j = 8 ∨ j = 9 ∨ j = 10 ∨ j = 11 ∨ j = 12 ∨ j = 13 ∨ j = 14 ∨ j = 15 ∨ j = 16 by omega) with rfl | rfl | rfl | rfl | rfl | rfl | rfl | rfl | rfl | rfl | rfl | rfl | rfl | rfl | rfl | rfl | rfl
  · exact Or.inl rfl
  · exact Or.inr (Or.inl rfl)
  · exact Or.inr (Or.inr (Or.inl rfl))
  · exact Or.inr (Or.inr (Or.inr (Or.inl rfl)))
  · exact Or.inr (Or.inr (Or.inr (Or.inr (Or.inl rfl))))
  · exact Or.inr (Or.inr (Or.inr (Or.inr (Or.inr (Or.inl rfl)))))
  · exact Or.inr (Or.inr (Or.inr (Or.inr (Or.inr (Or.inr (Or.inl rfl))))))
  · exact Or.inr (Or.inr (Or.inr (Or.inr (Or.inr (Or.inr (Or.inr (Or.inl rfl)))))))
  · exact Or.inr (Or.inr (Or.inr (Or.inr (Or.inr (Or.inr (Or.inr (Or.inr (Or.inl rfl))))))))
  · exact Or.inr (Or.inr (Or.inr (Or.inr (Or.inr (Or.inr (Or.inr (Or.inr (Or.inr (Or.inl rfl)))))))))
  · exact Or.inr (Or.inr (Or.inr (Or.inr (Or.inr (Or.inr (Or.inr (Or.inr (Or.inr (Or.inr (Or.inl rfl))))))))))
  · exact Or.inr (Or.inr (Or.inr (Or.inr (Or.inr (Or.inr (Or.inr (Or.inr (Or.inr (Or.inr (Or.inr (Or.inl rfl)))))))))))
  · exact Or.inr (Or.inr (Or.inr (Or.inr (Or.inr (Or.inr (Or.inr (Or.inr (Or.inr (Or.inr (Or.inr (Or.inr (Or.inl rfl))))))))))))
  · exact Or.inr (Or.inr (Or.inr (Or.inr (Or.inr (Or.inr (Or.inr (Or.inr (Or.inr (Or.inr (Or.inr (Or.inr (Or.inr (Or.inl rfl)))))))))))))
  · exact Or.inr (Or.inr (Or.inr (Or.inr (Or.inr (Or.inr (Or.inr (Or.inr (Or.inr (Or.inr (Or.inr (Or.inr (Or.inr (Or.inr (Or.inl rfl))))))))))))))
  · exact Or.inr (Or.inr (Or.inr (Or.inr (Or.inr (Or.inr (Or.inr (Or.inr (Or.inr (Or.inr (Or.inr (Or.inr (Or.inr (Or.inr (Or.inr (Or.inl rfl)))))))))))))))
  · exact Or.inr (Or.inr (Or.inr (Or.inr (Or.inr (Or.inr (Or.inr (Or.inr (Or.inr (Or.inr (Or.inr (Or.inr (Or.inr (Or.inr (Or.inr (Or.inr (rfl))))))))))))))))
theorem c_8 {x : Int32} (h0 : ¬ x < 0) (h1 : x < 8) : x = 0 ∨ x = 1 ∨ x = 2 ∨ x = 3 ∨ x = 4 ∨ x = 5 ∨ x = 6 ∨ x = 7 := by
  obtain ⟨j, hj, rfl⟩ := nat_of (n := 8) rfl (by omega) h0 h1
  rcases (show j = 0 ∨ j = 1 ∨ j = 2 ∨ j = 3 ∨ j = 4 ∨ j = 5 ∨ j = 6 ∨ j = 7 by omega) with rfl | rfl | rfl | rfl | rfl | rfl | rfl | rfl
  · exact Or.inl rfl
  · exact Or.inr (Or.inl rfl)
  · exact Or.inr (Or.inr (Or.inl rfl))
  · exact Or.inr (Or.inr (Or.inr (Or.inl rfl)))
  · exact Or.inr (Or.inr (Or.inr (Or.inr (Or.inl rfl))))
  · exact Or.inr (Or.inr (Or.inr (Or.inr (Or.inr (Or.inl rfl)))))
  · exact Or.inr (Or.inr (Or.inr (Or.inr (Or.inr (Or.inr (Or.inl rfl))))))
  · exact Or.inr (Or.inr (Or.inr (Or.inr (Or.inr (Or.inr (Or.inr (rfl)))))))
theorem c_3 {x : Int32} (h0 : ¬ x < 0) (h1 : x < 3) : x = 0 ∨ x = 1 ∨ x = 2 := by
  obtain ⟨j, hj, rfl⟩ := nat_of (n := 3) rfl (by omega) h0 h1
  rcases (show j = 0 ∨ j = 1 ∨ j = 2 by omega) with rfl | rfl | rfl
  · exact Or.inl rfl
  · exact Or.inr (Or.inl rfl)
  · exact Or.inr (Or.inr (rfl))
theorem ok_request : Ok_request Rel := by
  intro c r hR a0 a1
  by_cases h0 : a0 < 0
  · exact ⟨-2, c, r, fun Q h => by simp (config := { decide := true }) only [OF_request, if_pos h0]; exact h, fun Q h => by simp only [MO_request, if_pos h0]; exact h, hR⟩
  by_cases h1 : (1 : Int32) < a0
  · exact ⟨-2, c, r, fun Q h => by simp (config := { decide := true }) only [OF_request, if_neg h0, if_pos h1]; exact h, fun Q h => by simp only [MO_request, if_neg h0, if_pos h1]; exact h, hR⟩
  by_cases h2 : a1 < 0
  · exact ⟨-2, c, r, fun Q h => by simp (config := { decide := true }) only [OF_request, if_neg h0, if_neg h1, if_pos h2]; exact h, fun Q h => by simp only [MO_request, if_neg h0, if_neg h1, if_pos h2]; exact h, hR⟩
  by_cases h3 : (255 : Int32) < a1
  · exact ⟨-2, c, r, fun Q h => by simp (config := { decide := true }) only [OF_request, if_neg h0, if_neg h1, if_neg h2, if_pos h3]; exact h, fun Q h => by simp only [MO_request, if_neg h0, if_neg h1, if_neg h2, if_pos h3]; exact h, hR⟩
  obtain ⟨v, hv, hv'⟩ := nat_of_le (n := 255) rfl (by omega) h2 h3
  have ho : oct a1 := ⟨v, hv, hv'⟩
  obtain ⟨q1, q2, q3, q4, q5, q6, q7, q8, w1, w2, w3, w4, w5, w6, w7⟩ := hR
  have hc : a0 = 0 ∨ a0 = 1 := by
    obtain ⟨j, hj, rfl⟩ := nat_of_le (n := 1) rfl (by omega) h0 h1
    rcases (show j = 0 ∨ j = 1 by omega) with rfl | rfl
    · exact Or.inl rfl
    · exact Or.inr rfl
  rcases hc with rfl | rfl
  · refine ⟨if gF c 38 6 = 0 then 1 else 0, sF (sF c 38 6 1) 38 8 a1, sF (sF r 42 83 1) 42 84 a1, fun Q h => ?_, fun Q h => ?_, ?_⟩
    · simp (config := { decide := true }) only [OF_request, OF_request_37, Machine_await, Machine_await_15, if_neg h0, if_neg h1, if_neg h2, if_neg h3, bnd_iff, if_true, if_false]
      refine ⟨w4, ?_⟩
      split at h <;> rename_i e <;> simp only [e, if_true, if_false] <;> exact h
    · simp (config := { decide := true }) only [MO_request, MO_request_38, MO_request_61, if_neg h0, if_neg h1, if_neg h2, if_neg h3, bnd_iff, if_true, if_false, ← w1]
      split at h <;> rename_i e <;> simp only [e, if_true, if_false] <;> exact h
    · unfold Rel RTold RReg RReq
      simp only [gA_sA, gA_sA_ne, gA_sF, gA_sG, gA_sL, gF_sA, gF_sF, gF_sF_ne, gF_sG, gF_sL, gG_sA, gG_sF, gG_sL, gG_sGe, gG_sG_ne, gL_sA, gL_sF, gL_sG, gL_sLe, gL_sL_ne, u1f_eq, u1f_ne, bnd_iff, not_false_eq_true, Nat.reduceEqDiff]
      exact ⟨q1, q2, q3, q4, q5, q6, q7, q8, trivial, w2, w3, Or.inr rfl, w5, w6, fun _ => ⟨trivial, ho⟩⟩
  · refine ⟨if gF c 38 7 = 0 then 1 else 0, sF c 38 7 1, sF r 42 82 1, fun Q h => ?_, fun Q h => ?_, ?_⟩
    · simp (config := { decide := true }) only [OF_request, OF_request_37, Machine_await, Machine_await_15, if_neg h0, if_neg h1, if_neg h2, if_neg h3, bnd_iff, if_true, if_false]
      refine ⟨w5, ?_⟩
      split at h <;> rename_i e <;> simp only [e, if_true, if_false] <;> exact h
    · simp (config := { decide := true }) only [MO_request, MO_request_38, MO_request_61, if_neg h0, if_neg h1, if_neg h2, if_neg h3, bnd_iff, if_true, if_false, ← w2]
      split at h <;> rename_i e <;> simp only [e, if_true, if_false] <;> exact h
    · unfold Rel RTold RReg RReq
      simp only [gA_sA, gA_sA_ne, gA_sF, gA_sG, gA_sL, gF_sA, gF_sF, gF_sF_ne, gF_sG, gF_sL, gG_sA, gG_sF, gG_sL, gG_sGe, gG_sG_ne, gL_sA, gL_sF, gL_sG, gL_sLe, gL_sL_ne, u1f_eq, u1f_ne, bnd_iff, not_false_eq_true, Nat.reduceEqDiff]
      exact ⟨q1, q2, q3, q4, q5, q6, q7, q8, w1, trivial, w3, w4, Or.inr rfl, w6, w7⟩
/-- the reference's registers answer as the class's -/
theorem MO_at_ok {c r : vmD} (hR : RReg (gA c 39) (gA r 65) (gA r 66) (gA r 67) (gF r 42)) {x : Int32} (h0 : ¬ x < 0) (h1 : x < 17) (Q : Int32 → vmD → Prop) (h : Q (gA c 39 x.toNatClampNeg) r) : MO_at x r Q := by
  obtain ⟨-, g0, g1, g2, g3, g4, g5, g6, g7, ⟨g8, -⟩, ⟨g9, -⟩, ⟨g10, -⟩, ⟨g11, -⟩, ⟨g12, -⟩, ⟨g13, -⟩, ⟨g14, -⟩, ⟨g15, -⟩, ⟨g16, -⟩⟩ := hR
  rcases c_17 h0 h1 with rfl | rfl | rfl | rfl | rfl | rfl | rfl | rfl | rfl | rfl | rfl | rfl | rfl | rfl | rfl | rfl | rfl
  · have h : Q (gA c 39 0) r := h
    rw [g0] at h
    simp (config := { decide := true }) only [MO_at, MO_two, bnd_iff, if_true, if_false]
    first | exact h | exact ⟨by decide, by decide, h⟩ | exact ⟨by decide, h⟩
  · have h : Q (gA c 39 1) r := h
    rw [g1] at h
    simp (config := { decide := true }) only [MO_at, MO_two, bnd_iff, if_true, if_false]
    first | exact h | exact ⟨by decide, by decide, h⟩ | exact ⟨by decide, h⟩
  · have h : Q (gA c 39 2) r := h
    rw [g2] at h
    simp (config := { decide := true }) only [MO_at, MO_two, bnd_iff, if_true, if_false]
    first | exact h | exact ⟨by decide, by decide, h⟩ | exact ⟨by decide, h⟩
  · have h : Q (gA c 39 3) r := h
    rw [g3] at h
    simp (config := { decide := true }) only [MO_at, MO_two, bnd_iff, if_true, if_false]
    first | exact h | exact ⟨by decide, by decide, h⟩ | exact ⟨by decide, h⟩
  · have h : Q (gA c 39 4) r := h
    rw [g4] at h
    simp (config := { decide := true }) only [MO_at, MO_two, bnd_iff, if_true, if_false]
    first | exact h | exact ⟨by decide, by decide, h⟩ | exact ⟨by decide, h⟩
  · have h : Q (gA c 39 5) r := h
    rw [g5] at h
    simp (config := { decide := true }) only [MO_at, MO_two, bnd_iff, if_true, if_false]
    first | exact h | exact ⟨by decide, by decide, h⟩ | exact ⟨by decide, h⟩
  · have h : Q (gA c 39 6) r := h
    rw [g6] at h
    simp (config := { decide := true }) only [MO_at, MO_two, bnd_iff, if_true, if_false]
    first | exact h | exact ⟨by decide, by decide, h⟩ | exact ⟨by decide, h⟩
  · have h : Q (gA c 39 7) r := h
    rw [g7] at h
    simp (config := { decide := true }) only [MO_at, MO_two, bnd_iff, if_true, if_false]
    first | exact h | exact ⟨by decide, by decide, h⟩ | exact ⟨by decide, h⟩
  · have h : Q (gA c 39 8) r := h
    rw [g8] at h
    simp (config := { decide := true }) only [MO_at, MO_two, bnd_iff, if_true, if_false]
    first | exact h | exact ⟨by decide, by decide, h⟩ | exact ⟨by decide, h⟩
  · have h : Q (gA c 39 9) r := h
    rw [g9] at h
    simp (config := { decide := true }) only [MO_at, MO_two, bnd_iff, if_true, if_false]
    first | exact h | exact ⟨by decide, by decide, h⟩ | exact ⟨by decide, h⟩
  · have h : Q (gA c 39 10) r := h
    rw [g10] at h
    simp (config := { decide := true }) only [MO_at, MO_two, bnd_iff, if_true, if_false]
    first | exact h | exact ⟨by decide, by decide, h⟩ | exact ⟨by decide, h⟩
  · have h : Q (gA c 39 11) r := h
    rw [g11] at h
    simp (config := { decide := true }) only [MO_at, MO_two, bnd_iff, if_true, if_false]
    first | exact h | exact ⟨by decide, by decide, h⟩ | exact ⟨by decide, h⟩
  · have h : Q (gA c 39 12) r := h
    rw [g12] at h
    simp (config := { decide := true }) only [MO_at, MO_two, bnd_iff, if_true, if_false]
    first | exact h | exact ⟨by decide, by decide, h⟩ | exact ⟨by decide, h⟩
  · have h : Q (gA c 39 13) r := h
    rw [g13] at h
    simp (config := { decide := true }) only [MO_at, MO_two, bnd_iff, if_true, if_false]
    first | exact h | exact ⟨by decide, by decide, h⟩ | exact ⟨by decide, h⟩
  · have h : Q (gA c 39 14) r := h
    rw [g14] at h
    simp (config := { decide := true }) only [MO_at, MO_two, bnd_iff, if_true, if_false]
    first | exact h | exact ⟨by decide, by decide, h⟩ | exact ⟨by decide, h⟩
  · have h : Q (gA c 39 15) r := h
    rw [g15] at h
    simp (config := { decide := true }) only [MO_at, MO_two, bnd_iff, if_true, if_false]
    first | exact h | exact ⟨by decide, by decide, h⟩ | exact ⟨by decide, h⟩
  · have h : Q (gA c 39 16) r := h
    rw [g16] at h
    simp (config := { decide := true }) only [MO_at, MO_two, bnd_iff, if_true, if_false]
    first | exact h | exact ⟨by decide, by decide, h⟩ | exact ⟨by decide, h⟩
theorem ok_register : Ok_register Rel := by
  intro c r hR a0
  have hG := hR.2.2.2.2.2.2.1
  by_cases h0 : a0 < 0
  · exact ⟨-1, c, r, fun Q h => by simp only [OF_register, Machine_registerAt, if_pos h0]; exact h, fun Q h => by simp only [MO_register, if_pos h0]; exact h, hR⟩
  have hw : (16 : Int32) < a0 ↔ ¬ a0 < 17 := by rw [i32_ltN (K := 16) (k := 16) rfl (by omega)]; exact Iff.rfl
  by_cases h1 : a0 < 17
  · have h1' : ¬ (16 : Int32) < a0 := fun h => (hw.mp h) h1
    refine ⟨gA c 39 a0.toNatClampNeg, c, r, fun Q h => ?_, fun Q h => ?_, hR⟩
    · simp only [OF_register, Machine_registerAt, if_neg h0, if_pos h1, bnd_iff]
      refine ⟨?_, h⟩
      obtain ⟨j, hj, rfl⟩ := nat_of (n := 17) rfl (by omega) h0 h1
      exact nI_in hj (by omega)
    · simp only [MO_register, if_neg h0, if_neg h1']
      exact MO_at_ok hG h0 h1 _ h
  · exact ⟨-1, c, r, fun Q h => by simp only [OF_register, Machine_registerAt, if_neg h0, if_neg h1]; exact h, fun Q h => by simp only [MO_register, if_neg h0, if_pos (hw.mpr h1)]; exact h, hR⟩
