/-! The simple calls -/
theorem i32lit (n : Nat) : (OfNat.ofNat n : Int32) = nI n := rfl
theorem clampN {j n : Nat} (h : j < n) (hn : n ≤ 2147483648) : (nI j).toNatClampNeg = j := nI_clamp (by omega)
theorem ok_octet : Ok_octet Rel := by
  intro c r hR a0
  have hM := hR.2.1
  by_cases h0 : a0 < 0
  · exact ⟨-1, c, r, fun Q h => by simp only [OF_octet, if_pos h0]; exact h, fun Q h => by simp only [MO_octet, if_pos h0]; exact h, hR⟩
  by_cases h1 : a0 < 65536
  · obtain ⟨j, hj, rfl⟩ := nat_of (n := 65536) rfl (by omega) h0 h1
    refine ⟨gA r 55 j, c, r, fun Q h => ?_, fun Q h => ?_, hR⟩
    · simp only [OF_octet, if_neg h0, if_pos h1, Memory_at, bnd_iff, nx_m16 hj, clampN hj (by omega), ← hM j hj]
      exact ⟨nI_in hj (by omega), h⟩
    · simp only [MO_octet, if_neg h0, if_pos h1, bnd_iff, clampN hj (by omega)]
      exact ⟨nI_in hj (by omega), h⟩
  · exact ⟨-1, c, r, fun Q h => by simp only [OF_octet, if_neg h0, if_neg h1]; exact h, fun Q h => by simp only [MO_octet, if_neg h0, if_neg h1]; exact h, hR⟩
theorem bp_b2 (x : Int32) : x.toInt8.toInt32.toInt8.toInt32 &&& 255 = x &&& 255 := by rw [bp_b, bp_b]
theorem RMem.put {m n : Nat → Int32} (h : RMem m n) {j : Nat} (x y : Int32) (hx : x &&& 255 = y) : RMem (u1f m j x) (u1f n j y) := by
  intro a ha
  unfold u1f
  by_cases e : a = j
  · rw [if_pos e, if_pos e, hx]
  · rw [if_neg e, if_neg e]
    exact h a ha
theorem lt_iff_not {a b : Int32} : a < b ↔ ¬ b ≤ a := Int32.not_le.symm
theorem i32_ltN {x : Int32} {k : Nat} {K : Int32} (hK : K = nI k) (hk : k + 1 < 2 ^ 31) : (K < x) = ¬ (x < nI (k + 1)) := by
  subst hK
  apply propext
  rw [Int32.not_lt, Int32.lt_iff_toInt_lt, Int32.le_iff_toInt_le, nI_toInt (by omega), nI_toInt (by omega)]
  omega
theorem ok_put : Ok_put Rel := by
  intro c r hR a0 a1
  have hM := hR.2.1
  by_cases h0 : a0 < 0
  · exact ⟨-1, c, r, fun Q h => by simp only [OF_put, if_pos h0]; exact h, fun Q h => by simp only [MO_put, if_pos h0]; exact h, hR⟩
  have hw : (65535 : Int32) < a0 ↔ ¬ a0 < 65536 := by rw [i32_ltN (K := 65535) (k := 65535) rfl (by omega)]; exact Iff.rfl
  by_cases h1 : a0 < 65536
  · have h1' : ¬ (65535 : Int32) < a0 := fun h => (hw.mp h) h1
    by_cases h2 : a1 < 0
    · exact ⟨-2, c, r, fun Q h => by simp only [OF_put, if_neg h0, if_pos h1, if_pos h2]; exact h, fun Q h => by simp only [MO_put, if_neg h0, if_neg h1', if_pos h2]; exact h, hR⟩
    by_cases h3 : (255 : Int32) < a1
    · exact ⟨-2, c, r, fun Q h => by simp only [OF_put, if_neg h0, if_pos h1, if_neg h2, if_pos h3]; exact h, fun Q h => by simp only [MO_put, if_neg h0, if_neg h1', if_neg h2, if_pos h3]; exact h, hR⟩
    obtain ⟨j, hj, rfl⟩ := nat_of (n := 65536) rfl (by omega) h0 h1
    obtain ⟨v, hv, rfl⟩ := nat_of_le (n := 255) rfl (by omega) h2 h3
    have ho : oct (nI v) := ⟨v, hv, rfl⟩
    refine ⟨gA r 55 j, sA c 2 j (nI v).toInt8.toInt32.toInt8.toInt32, sA r 55 j (nI v), fun Q h => ?_, fun Q h => ?_, ?_⟩
    · simp only [OF_put, if_neg h0, if_pos h1, if_neg h2, if_neg h3, Memory_at, Memory_store, bnd_iff, nx_m16 hj, clampN hj (by omega), ← hM j hj]
      exact ⟨nI_in hj (by omega), nI_in hj (by omega), h⟩
    · simp only [MO_put, if_neg h0, if_neg h1', if_neg h2, if_neg h3, bnd_iff, clampN hj (by omega)]
      exact ⟨nI_in hj (by omega), nI_in hj (by omega), h⟩
    · obtain ⟨q1, q2, q3, q4, q5, q6, q7, q8, q9⟩ := hR
      unfold Rel
      simp only [gA_sA, gA_sA_ne, gA_sF, gA_sG, gA_sL, gF_sA, gF_sF, gF_sF_ne, gF_sG, gF_sL, gG_sA, gG_sF, gG_sL, gG_sGe, gG_sG_ne, gL_sA, gL_sF, gL_sG, gL_sLe, gL_sL_ne, u1f_eq, u1f_ne, bnd_iff, not_false_eq_true, Nat.reduceEqDiff]
      exact ⟨q1, q2.put _ _ (by first | rw [bp_b2, ho.and] | rw [bp_b, ho.and]), q3, q4, q5, q6, q7, q8, q9⟩
  · exact ⟨-1, c, r, fun Q h => by simp only [OF_put, if_neg h0, if_neg h1]; exact h, fun Q h => by simp only [MO_put, if_neg h0, if_pos (hw.mpr h1)]; exact h, hR⟩
theorem ok_told : Ok_told Rel := by
  intro c r hR a0
  obtain ⟨t1, t2, t3, t4, t5⟩ := hR.2.2.2.2.2.1
  obtain ⟨k, -, l1, l2, -⟩ := hR.2.2.2.1
  have l3 : gF r 42 51 = gF c 3 5 := by rw [l1, l2]
  refine ⟨if a0 = 0 then gF c 21 0 else if a0 = 1 then gF c 21 1 else if a0 = 2 then gF c 20 14 else if a0 = 3 then gF c 3 5 else if a0 = 4 then gF c 20 15 else if a0 = 5 then gF c 20 16 else -2, c, r, fun Q h => ?_, fun Q h => ?_, hR⟩
  · simp only [OF_told, Forger_fact, Faults_line, Faults_place, Names_count]
    repeat' (split at h <;> rename_i e <;> first | (rw [if_pos e]; exact h) | rw [if_neg e])
    exact h
  · simp only [MO_told, ← t1, ← t2, ← t3, ← t4, ← t5, l3]
    repeat' (split at h <;> rename_i e <;> first | (rw [if_pos e]; exact h) | rw [if_neg e])
    exact h
theorem ok_label : Ok_label Rel := by
  intro c r hR a0
  obtain ⟨k, hk, l1, l2, hl⟩ := hR.2.2.2.1
  by_cases h0 : a0 < 0
  · exact ⟨0, c, r, fun Q h => by simp only [OF_label, Names_labelValue, if_pos h0]; exact h, fun Q h => by simp only [MO_label, if_pos h0]; exact h, hR⟩
  by_cases h1 : a0 < nI k
  · obtain ⟨j, hj, rfl⟩ := nat_of (n := k) rfl (by omega) h0 h1
    have h2 : nI j < 200 := nI_lt (b := 200) (by omega) (by omega)
    refine ⟨gA c 6 j, c, r, fun Q h => ?_, fun Q h => ?_, hR⟩
    · simp only [OF_label, Names_labelValue, if_neg h0, l1, if_pos h1, if_pos h2, bnd_iff, clampN hj (by omega)]
      exact ⟨nI_in (by omega) (by omega), h⟩
    · simp only [MO_label, if_neg h0, l2, if_pos h1, bnd_iff, clampN hj (by omega), (hl j hj).1]
      exact ⟨nI_in (by omega) (by omega), h⟩
  · exact ⟨0, c, r, fun Q h => by simp only [OF_label, Names_labelValue, if_neg h0, l1, if_neg h1]; exact h, fun Q h => by simp only [MO_label, if_neg h0, l2, if_neg h1]; exact h, hR⟩
theorem ok_sign : Ok_sign Rel := by
  intro c r hR a0
  obtain ⟨k, hk, l1, l2, hl⟩ := hR.2.2.2.2.1
  by_cases h0 : a0 < 0
  · exact ⟨-1, c, r, fun Q h => by simp only [OF_sign, Text_at_wri, if_pos h0]; exact h, fun Q h => by simp only [MO_sign, if_pos h0]; exact h, hR⟩
  by_cases h1 : a0 < nI k
  · obtain ⟨j, hj, rfl⟩ := nat_of (n := k) rfl (by omega) h0 h1
    have h2 : nI j < 32 := nI_lt (b := 32) (by omega) (by omega)
    refine ⟨gA r 63 j, c, r, fun Q h => ?_, fun Q h => ?_, hR⟩
    · simp only [OF_sign, Text_at_wri, if_neg h0, l1, if_pos h1, if_pos h2, bnd_iff, clampN hj (by omega), ← hl j hj]
      exact ⟨nI_in (by omega) (by omega), h⟩
    · simp only [MO_sign, if_neg h0, l2, if_pos h1, bnd_iff, clampN hj (by omega)]
      exact ⟨nI_in (by omega) (by omega), h⟩
  · exact ⟨-1, c, r, fun Q h => by simp only [OF_sign, Text_at_wri, if_neg h0, l1, if_neg h1]; exact h, fun Q h => by simp only [MO_sign, if_neg h0, l2, if_neg h1]; exact h, hR⟩
theorem ok_sourceAt : Ok_sourceAt Rel := by
  intro c r hR a0
  obtain ⟨k, hk, l1, l2, hl⟩ := hR.2.2.1
  by_cases h0 : a0 < 0
  · exact ⟨-1, c, r, fun Q h => by simp only [OF_sourceAt, Text_at_src, if_pos h0]; exact h, fun Q h => by simp only [MO_sourceAt, if_pos h0]; exact h, hR⟩
  by_cases h1 : a0 < nI k
  · obtain ⟨j, hj, rfl⟩ := nat_of (n := k) rfl (by omega) h0 h1
    have h2 : nI j < 6000 := nI_lt (b := 6000) (by omega) (by omega)
    refine ⟨gA r 43 j, c, r, fun Q h => ?_, fun Q h => ?_, hR⟩
    · simp only [OF_sourceAt, Text_at_src, if_neg h0, l1, if_pos h1, if_pos h2, bnd_iff, clampN hj (by omega), ← hl j hj]
      exact ⟨nI_in (by omega) (by omega), h⟩
    · simp only [MO_sourceAt, if_neg h0, l2, if_pos h1, bnd_iff, clampN hj (by omega)]
      exact ⟨nI_in (by omega) (by omega), h⟩
  · exact ⟨-1, c, r, fun Q h => by simp only [OF_sourceAt, Text_at_src, if_neg h0, l1, if_neg h1]; exact h, fun Q h => by simp only [MO_sourceAt, if_neg h0, l2, if_neg h1]; exact h, hR⟩
theorem ok_out : Ok_out Rel := by
  intro c r hR a0
  have hP := hR.2.2.2.2.2.2.2.1
  by_cases h0 : a0 < 0
  · exact ⟨-1, c, r, fun Q h => by simp only [OF_out, Machine_outputAt, if_pos h0]; exact h, fun Q h => by simp only [MO_out, if_pos h0]; exact h, hR⟩
  by_cases h1 : a0 < 256
  · obtain ⟨j, hj, rfl⟩ := nat_of (n := 256) rfl (by omega) h0 h1
    refine ⟨gA r 69 j, c, r, fun Q h => ?_, fun Q h => ?_, hR⟩
    · simp only [OF_out, Machine_outputAt, if_neg h0, if_pos h1, bnd_iff, clampN hj (by omega), (hP.1 j hj).2.2]
      exact ⟨nI_in hj (by omega), h⟩
    · simp only [MO_out, if_neg h0, if_pos h1, bnd_iff, clampN hj (by omega)]
      exact ⟨nI_in hj (by omega), h⟩
  · exact ⟨-1, c, r, fun Q h => by simp only [OF_out, Machine_outputAt, if_neg h0, if_neg h1]; exact h, fun Q h => by simp only [MO_out, if_neg h0, if_neg h1]; exact h, hR⟩
theorem ok_outs : Ok_outs Rel := by
  intro c r hR
  have hP := hR.2.2.2.2.2.2.2.1.2
  exact ⟨gG c 38 5, c, r, fun Q h => by simp only [OF_outs, Machine_outputs]; exact h, fun Q h => by simp only [MO_outs, ← hP]; exact h, hR⟩
theorem ok_port : Ok_port Rel := by
  intro c r hR a0 a1
  have hP := hR.2.2.2.2.2.2.2.1
  by_cases h0 : a0 < 0
  · exact ⟨-1, c, r, fun Q h => by simp only [OF_port, if_pos h0]; exact h, fun Q h => by simp only [MO_port, if_pos h0]; exact h, hR⟩
  by_cases h1 : (255 : Int32) < a0
  · exact ⟨-1, c, r, fun Q h => by simp only [OF_port, if_neg h0, if_pos h1]; exact h, fun Q h => by simp only [MO_port, if_neg h0, if_pos h1]; exact h, hR⟩
  by_cases h2 : a1 < 0
  · exact ⟨-2, c, r, fun Q h => by simp only [OF_port, if_neg h0, if_neg h1, if_pos h2]; exact h, fun Q h => by simp only [MO_port, if_neg h0, if_neg h1, if_pos h2]; exact h, hR⟩
  by_cases h3 : (255 : Int32) < a1
  · exact ⟨-2, c, r, fun Q h => by simp only [OF_port, if_neg h0, if_neg h1, if_neg h2, if_pos h3]; exact h, fun Q h => by simp only [MO_port, if_neg h0, if_neg h1, if_neg h2, if_pos h3]; exact h, hR⟩
  obtain ⟨j, hj, rfl⟩ := nat_of_le (n := 255) rfl (by omega) h0 h1
  obtain ⟨v, hv, rfl⟩ := nat_of_le (n := 255) rfl (by omega) h2 h3
  have ho : oct (nI v) := ⟨v, hv, rfl⟩
  have hj' : oct (nI j) := ⟨j, hj, rfl⟩
  refine ⟨gA c 40 j, sA c 40 j (nI v), sA r 68 j (nI v), fun Q h => ?_, fun Q h => ?_, ?_⟩
  · simp only [OF_port, Machine_changeInput, if_neg h0, if_neg h1, if_neg h2, if_neg h3, bnd_iff, hj'.and, clampN hj (by omega)]
    exact ⟨nI_in hj (by omega), nI_in hj (by omega), h⟩
  · simp only [MO_port, if_neg h0, if_neg h1, if_neg h2, if_neg h3, bnd_iff, clampN hj (by omega), ← (hP.1 j hj).1]
    exact ⟨nI_in hj (by omega), nI_in hj (by omega), h⟩
  · obtain ⟨q1, q2, q3, q4, q5, q6, q7, q8, q9⟩ := hR
    unfold Rel
    simp only [gA_sA, gA_sA_ne, gA_sF, gA_sG, gA_sL, gF_sA, gF_sF, gF_sF_ne, gF_sG, gF_sL, gG_sA, gG_sF, gG_sL, gG_sGe, gG_sG_ne, gL_sA, gL_sF, gL_sG, gL_sLe, gL_sL_ne, u1f_eq, u1f_ne, bnd_iff, not_false_eq_true, Nat.reduceEqDiff]
    refine ⟨q1, q2, q3, q4, q5, q6, q7, ⟨fun p hp => ?_, q8.2⟩, q9⟩
    unfold u1f
    by_cases e : p = j
    · simp only [if_pos e]
      exact ⟨trivial, ho, (q8.1 p hp).2.2⟩
    · simp only [if_neg e]
      exact q8.1 p hp
