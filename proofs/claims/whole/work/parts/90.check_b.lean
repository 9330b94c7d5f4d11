/-! the data's checks: methods -/
set_option maxRecDepth 1000000 in
theorem okM_0_0 : (List.range' 0 1022).all (fun j => ckM 0 j) = true := by decide +kernel
theorem okM_0 (j : Nat) (hj : j < 1022) : ckM 0 j = true := by
  exact rg okM_0_0 (by omega) (by omega)
set_option maxRecDepth 1000000 in
theorem okM_1_0 : (List.range' 0 1022).all (fun j => ckM 1 j) = true := by decide +kernel
theorem okM_1 (j : Nat) (hj : j < 1022) : ckM 1 j = true := by
  exact rg okM_1_0 (by omega) (by omega)
set_option maxRecDepth 1000000 in
theorem okM_2_0 : (List.range' 0 1022).all (fun j => ckM 2 j) = true := by decide +kernel
theorem okM_2 (j : Nat) (hj : j < 1022) : ckM 2 j = true := by
  exact rg okM_2_0 (by omega) (by omega)
set_option maxRecDepth 1000000 in
theorem okM_3_0 : (List.range' 0 208).all (fun j => ckM 3 j) = true := by decide +kernel
set_option maxRecDepth 1000000 in
theorem okM_3_1 : (List.range' 208 814).all (fun j => ckM 3 j) = true := by decide +kernel
theorem okM_3 (j : Nat) (hj : j < 1022) : ckM 3 j = true := by
  rcases Nat.lt_or_ge j 208 with h | h
  · exact rg okM_3_0 (by omega) (by omega)
  exact rg okM_3_1 (by omega) (by omega)
set_option maxRecDepth 1000000 in
theorem okM_4_0 : (List.range' 0 1022).all (fun j => ckM 4 j) = true := by decide +kernel
theorem okM_4 (j : Nat) (hj : j < 1022) : ckM 4 j = true := by
  exact rg okM_4_0 (by omega) (by omega)
set_option maxRecDepth 1000000 in
theorem okM_5_0 : (List.range' 0 180).all (fun j => ckM 5 j) = true := by decide +kernel
set_option maxRecDepth 1000000 in
theorem okM_5_1 : (List.range' 180 842).all (fun j => ckM 5 j) = true := by decide +kernel
theorem okM_5 (j : Nat) (hj : j < 1022) : ckM 5 j = true := by
  rcases Nat.lt_or_ge j 180 with h | h
  · exact rg okM_5_0 (by omega) (by omega)
  exact rg okM_5_1 (by omega) (by omega)
set_option maxRecDepth 1000000 in
theorem okM_6_0 : (List.range' 0 1022).all (fun j => ckM 6 j) = true := by decide +kernel
theorem okM_6 (j : Nat) (hj : j < 1022) : ckM 6 j = true := by
  exact rg okM_6_0 (by omega) (by omega)
set_option maxRecDepth 1000000 in
theorem okM_7_0 : (List.range' 0 1022).all (fun j => ckM 7 j) = true := by decide +kernel
theorem okM_7 (j : Nat) (hj : j < 1022) : ckM 7 j = true := by
  exact rg okM_7_0 (by omega) (by omega)
set_option maxRecDepth 1000000 in
theorem okM_8_0 : (List.range' 0 1022).all (fun j => ckM 8 j) = true := by decide +kernel
theorem okM_8 (j : Nat) (hj : j < 1022) : ckM 8 j = true := by
  exact rg okM_8_0 (by omega) (by omega)
set_option maxRecDepth 1000000 in
theorem okM_9_0 : (List.range' 0 1022).all (fun j => ckM 9 j) = true := by decide +kernel
theorem okM_9 (j : Nat) (hj : j < 1022) : ckM 9 j = true := by
  exact rg okM_9_0 (by omega) (by omega)
set_option maxRecDepth 1000000 in
theorem okM_10_0 : (List.range' 0 1022).all (fun j => ckM 10 j) = true := by decide +kernel
theorem okM_10 (j : Nat) (hj : j < 1022) : ckM 10 j = true := by
  exact rg okM_10_0 (by omega) (by omega)
set_option maxRecDepth 1000000 in
theorem okM_11_0 : (List.range' 0 1022).all (fun j => ckM 11 j) = true := by decide +kernel
theorem okM_11 (j : Nat) (hj : j < 1022) : ckM 11 j = true := by
  exact rg okM_11_0 (by omega) (by omega)
set_option maxRecDepth 1000000 in
theorem okM_12_0 : (List.range' 0 1022).all (fun j => ckM 12 j) = true := by decide +kernel
theorem okM_12 (j : Nat) (hj : j < 1022) : ckM 12 j = true := by
  exact rg okM_12_0 (by omega) (by omega)
set_option maxRecDepth 1000000 in
theorem okM_13_0 : (List.range' 0 497).all (fun j => ckM 13 j) = true := by decide +kernel
set_option maxRecDepth 1000000 in
theorem okM_13_1 : (List.range' 497 201).all (fun j => ckM 13 j) = true := by decide +kernel
set_option maxRecDepth 1000000 in
theorem okM_13_2 : (List.range' 698 262).all (fun j => ckM 13 j) = true := by decide +kernel
set_option maxRecDepth 1000000 in
theorem okM_13_3 : (List.range' 960 62).all (fun j => ckM 13 j) = true := by decide +kernel
theorem okM_13 (j : Nat) (hj : j < 1022) : ckM 13 j = true := by
  rcases Nat.lt_or_ge j 497 with h | h
  · exact rg okM_13_0 (by omega) (by omega)
  rcases Nat.lt_or_ge j 698 with h | h
  · exact rg okM_13_1 (by omega) (by omega)
  rcases Nat.lt_or_ge j 960 with h | h
  · exact rg okM_13_2 (by omega) (by omega)
  exact rg okM_13_3 (by omega) (by omega)
set_option maxRecDepth 1000000 in
theorem okM_14_0 : (List.range' 0 1022).all (fun j => ckM 14 j) = true := by decide +kernel
theorem okM_14 (j : Nat) (hj : j < 1022) : ckM 14 j = true := by
  exact rg okM_14_0 (by omega) (by omega)
set_option maxRecDepth 1000000 in
theorem okM_15_0 : (List.range' 0 1022).all (fun j => ckM 15 j) = true := by decide +kernel
theorem okM_15 (j : Nat) (hj : j < 1022) : ckM 15 j = true := by
  exact rg okM_15_0 (by omega) (by omega)
set_option maxRecDepth 1000000 in
theorem okM_16_0 : (List.range' 0 96).all (fun j => ckM 16 j) = true := by decide +kernel
set_option maxRecDepth 1000000 in
theorem okM_16_1 : (List.range' 96 926).all (fun j => ckM 16 j) = true := by decide +kernel
theorem okM_16 (j : Nat) (hj : j < 1022) : ckM 16 j = true := by
  rcases Nat.lt_or_ge j 96 with h | h
  · exact rg okM_16_0 (by omega) (by omega)
  exact rg okM_16_1 (by omega) (by omega)
theorem okM_ok (c j : Nat) : ckM c j = true := by
  by_cases hc : c < 17 ∧ j < 1022
  · obtain ⟨h1, h2⟩ := hc
    rcases (show c = 0 ∨ c = 1 ∨ c = 2 ∨ c = 3 ∨ c = 4 ∨ c = 5 ∨ c = 6 ∨ c = 7 ∨ c = 8 ∨ c = 9 ∨ c = 10 ∨ c = 11 ∨ c = 12 ∨ c = 13 ∨ c = 14 ∨ c = 15 ∨ c = 16 by omega) with rfl | rfl | rfl | rfl | rfl | rfl | rfl | rfl | rfl | rfl | rfl | rfl | rfl | rfl | rfl | rfl | rfl
    · exact okM_0 j h2
    · exact okM_1 j h2
    · exact okM_2 j h2
    · exact okM_3 j h2
    · exact okM_4 j h2
    · exact okM_5 j h2
    · exact okM_6 j h2
    · exact okM_7 j h2
    · exact okM_8 j h2
    · exact okM_9 j h2
    · exact okM_10 j h2
    · exact okM_11 j h2
    · exact okM_12 j h2
    · exact okM_13 j h2
    · exact okM_14 j h2
    · exact okM_15 j h2
    · exact okM_16 j h2
  · have h0 : rM c j = none := by
      unfold rM
      have : (Nat.blt c 17 && Nat.blt j 1022) = false := by
        rw [Bool.and_eq_false_iff]
        rcases Nat.lt_or_ge c 17 with q | q
        · rcases Nat.lt_or_ge j 1022 with z | z
          · exact absurd ⟨q, z⟩ hc
          · exact Or.inr (by rw [← Bool.not_eq_true]; exact fun h => absurd (Nat.le_of_ble_eq_true h) (by omega))
        · exact Or.inl (by rw [← Bool.not_eq_true]; exact fun h => absurd (Nat.le_of_ble_eq_true h) (by omega))
      rw [this]
      rfl
    unfold ckM
    rw [h0]
