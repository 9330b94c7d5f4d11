/-! the data's checks: constants, new, layouts -/
set_option maxRecDepth 1000000 in
theorem okI_0_0 : (List.range' 0 1021).all (fun j => ckI 0 j) = true := by decide +kernel
theorem okI_0 (j : Nat) (hj : j < 1021) : ckI 0 j = true := by
  exact rg okI_0_0 (by omega) (by omega)
set_option maxRecDepth 1000000 in
theorem okI_1_0 : (List.range' 0 1021).all (fun j => ckI 1 j) = true := by decide +kernel
theorem okI_1 (j : Nat) (hj : j < 1021) : ckI 1 j = true := by
  exact rg okI_1_0 (by omega) (by omega)
set_option maxRecDepth 1000000 in
theorem okI_2_0 : (List.range' 0 1021).all (fun j => ckI 2 j) = true := by decide +kernel
theorem okI_2 (j : Nat) (hj : j < 1021) : ckI 2 j = true := by
  exact rg okI_2_0 (by omega) (by omega)
set_option maxRecDepth 1000000 in
theorem okI_3_0 : (List.range' 0 1021).all (fun j => ckI 3 j) = true := by decide +kernel
theorem okI_3 (j : Nat) (hj : j < 1021) : ckI 3 j = true := by
  exact rg okI_3_0 (by omega) (by omega)
set_option maxRecDepth 1000000 in
theorem okI_4_0 : (List.range' 0 1021).all (fun j => ckI 4 j) = true := by decide +kernel
theorem okI_4 (j : Nat) (hj : j < 1021) : ckI 4 j = true := by
  exact rg okI_4_0 (by omega) (by omega)
set_option maxRecDepth 1000000 in
theorem okI_5_0 : (List.range' 0 1021).all (fun j => ckI 5 j) = true := by decide +kernel
theorem okI_5 (j : Nat) (hj : j < 1021) : ckI 5 j = true := by
  exact rg okI_5_0 (by omega) (by omega)
set_option maxRecDepth 1000000 in
theorem okI_6_0 : (List.range' 0 1021).all (fun j => ckI 6 j) = true := by decide +kernel
theorem okI_6 (j : Nat) (hj : j < 1021) : ckI 6 j = true := by
  exact rg okI_6_0 (by omega) (by omega)
set_option maxRecDepth 1000000 in
theorem okI_7_0 : (List.range' 0 1021).all (fun j => ckI 7 j) = true := by decide +kernel
theorem okI_7 (j : Nat) (hj : j < 1021) : ckI 7 j = true := by
  exact rg okI_7_0 (by omega) (by omega)
set_option maxRecDepth 1000000 in
theorem okI_8_0 : (List.range' 0 1021).all (fun j => ckI 8 j) = true := by decide +kernel
theorem okI_8 (j : Nat) (hj : j < 1021) : ckI 8 j = true := by
  exact rg okI_8_0 (by omega) (by omega)
set_option maxRecDepth 1000000 in
theorem okI_9_0 : (List.range' 0 1021).all (fun j => ckI 9 j) = true := by decide +kernel
theorem okI_9 (j : Nat) (hj : j < 1021) : ckI 9 j = true := by
  exact rg okI_9_0 (by omega) (by omega)
set_option maxRecDepth 1000000 in
theorem okI_10_0 : (List.range' 0 1021).all (fun j => ckI 10 j) = true := by decide +kernel
theorem okI_10 (j : Nat) (hj : j < 1021) : ckI 10 j = true := by
  exact rg okI_10_0 (by omega) (by omega)
set_option maxRecDepth 1000000 in
theorem okI_11_0 : (List.range' 0 1021).all (fun j => ckI 11 j) = true := by decide +kernel
theorem okI_11 (j : Nat) (hj : j < 1021) : ckI 11 j = true := by
  exact rg okI_11_0 (by omega) (by omega)
set_option maxRecDepth 1000000 in
theorem okI_12_0 : (List.range' 0 1021).all (fun j => ckI 12 j) = true := by decide +kernel
theorem okI_12 (j : Nat) (hj : j < 1021) : ckI 12 j = true := by
  exact rg okI_12_0 (by omega) (by omega)
set_option maxRecDepth 1000000 in
theorem okI_13_0 : (List.range' 0 1021).all (fun j => ckI 13 j) = true := by decide +kernel
theorem okI_13 (j : Nat) (hj : j < 1021) : ckI 13 j = true := by
  exact rg okI_13_0 (by omega) (by omega)
set_option maxRecDepth 1000000 in
theorem okI_14_0 : (List.range' 0 1021).all (fun j => ckI 14 j) = true := by decide +kernel
theorem okI_14 (j : Nat) (hj : j < 1021) : ckI 14 j = true := by
  exact rg okI_14_0 (by omega) (by omega)
set_option maxRecDepth 1000000 in
theorem okI_15_0 : (List.range' 0 1021).all (fun j => ckI 15 j) = true := by decide +kernel
theorem okI_15 (j : Nat) (hj : j < 1021) : ckI 15 j = true := by
  exact rg okI_15_0 (by omega) (by omega)
set_option maxRecDepth 1000000 in
theorem okI_16_0 : (List.range' 0 1021).all (fun j => ckI 16 j) = true := by decide +kernel
theorem okI_16 (j : Nat) (hj : j < 1021) : ckI 16 j = true := by
  exact rg okI_16_0 (by omega) (by omega)
theorem okI_ok (c j : Nat) : ckI c j = true := by
  by_cases hc : c < 17 ∧ j < 1021
  · obtain ⟨h1, h2⟩ := hc
    rcases (show c = 0 ∨ c = 1 ∨ c = 2 ∨ c = 3 ∨ c = 4 ∨ c = 5 ∨ c = 6 ∨ c = 7 ∨ c = 8 ∨ c = 9 ∨ c = 10 ∨ c = 11 ∨ c = 12 ∨ c = 13 ∨ c = 14 ∨ c = 15 ∨ c = 16 by omega) with rfl | rfl | rfl | rfl | rfl | rfl | rfl | rfl | rfl | rfl | rfl | rfl | rfl | rfl | rfl | rfl | rfl
    · exact okI_0 j h2
    · exact okI_1 j h2
    · exact okI_2 j h2
    · exact okI_3 j h2
    · exact okI_4 j h2
    · exact okI_5 j h2
    · exact okI_6 j h2
    · exact okI_7 j h2
    · exact okI_8 j h2
    · exact okI_9 j h2
    · exact okI_10 j h2
    · exact okI_11 j h2
    · exact okI_12 j h2
    · exact okI_13 j h2
    · exact okI_14 j h2
    · exact okI_15 j h2
    · exact okI_16 j h2
  · have h0 : rI c j = none := by
      unfold rI
      have : (Nat.blt c 17 && Nat.blt j 1021) = false := by
        rw [Bool.and_eq_false_iff]
        rcases Nat.lt_or_ge c 17 with q | q
        · rcases Nat.lt_or_ge j 1021 with z | z
          · exact absurd ⟨q, z⟩ hc
          · exact Or.inr (by rw [← Bool.not_eq_true]; exact fun h => absurd (Nat.le_of_ble_eq_true h) (by omega))
        · exact Or.inl (by rw [← Bool.not_eq_true]; exact fun h => absurd (Nat.le_of_ble_eq_true h) (by omega))
      rw [this]
      rfl
    unfold ckI
    rw [h0]
set_option maxRecDepth 1000000 in
theorem okJ_0_0 : (List.range' 0 866).all (fun j => ckJ 0 j) = true := by decide +kernel
theorem okJ_0 (j : Nat) (hj : j < 866) : ckJ 0 j = true := by
  exact rg okJ_0_0 (by omega) (by omega)
set_option maxRecDepth 1000000 in
theorem okJ_1_0 : (List.range' 0 866).all (fun j => ckJ 1 j) = true := by decide +kernel
theorem okJ_1 (j : Nat) (hj : j < 866) : ckJ 1 j = true := by
  exact rg okJ_1_0 (by omega) (by omega)
set_option maxRecDepth 1000000 in
theorem okJ_2_0 : (List.range' 0 866).all (fun j => ckJ 2 j) = true := by decide +kernel
theorem okJ_2 (j : Nat) (hj : j < 866) : ckJ 2 j = true := by
  exact rg okJ_2_0 (by omega) (by omega)
set_option maxRecDepth 1000000 in
theorem okJ_3_0 : (List.range' 0 866).all (fun j => ckJ 3 j) = true := by decide +kernel
theorem okJ_3 (j : Nat) (hj : j < 866) : ckJ 3 j = true := by
  exact rg okJ_3_0 (by omega) (by omega)
set_option maxRecDepth 1000000 in
theorem okJ_4_0 : (List.range' 0 866).all (fun j => ckJ 4 j) = true := by decide +kernel
theorem okJ_4 (j : Nat) (hj : j < 866) : ckJ 4 j = true := by
  exact rg okJ_4_0 (by omega) (by omega)
set_option maxRecDepth 1000000 in
theorem okJ_5_0 : (List.range' 0 866).all (fun j => ckJ 5 j) = true := by decide +kernel
theorem okJ_5 (j : Nat) (hj : j < 866) : ckJ 5 j = true := by
  exact rg okJ_5_0 (by omega) (by omega)
set_option maxRecDepth 1000000 in
theorem okJ_6_0 : (List.range' 0 866).all (fun j => ckJ 6 j) = true := by decide +kernel
theorem okJ_6 (j : Nat) (hj : j < 866) : ckJ 6 j = true := by
  exact rg okJ_6_0 (by omega) (by omega)
set_option maxRecDepth 1000000 in
theorem okJ_7_0 : (List.range' 0 866).all (fun j => ckJ 7 j) = true := by decide +kernel
theorem okJ_7 (j : Nat) (hj : j < 866) : ckJ 7 j = true := by
  exact rg okJ_7_0 (by omega) (by omega)
set_option maxRecDepth 1000000 in
theorem okJ_8_0 : (List.range' 0 866).all (fun j => ckJ 8 j) = true := by decide +kernel
theorem okJ_8 (j : Nat) (hj : j < 866) : ckJ 8 j = true := by
  exact rg okJ_8_0 (by omega) (by omega)
set_option maxRecDepth 1000000 in
theorem okJ_9_0 : (List.range' 0 866).all (fun j => ckJ 9 j) = true := by decide +kernel
theorem okJ_9 (j : Nat) (hj : j < 866) : ckJ 9 j = true := by
  exact rg okJ_9_0 (by omega) (by omega)
set_option maxRecDepth 1000000 in
theorem okJ_10_0 : (List.range' 0 866).all (fun j => ckJ 10 j) = true := by decide +kernel
theorem okJ_10 (j : Nat) (hj : j < 866) : ckJ 10 j = true := by
  exact rg okJ_10_0 (by omega) (by omega)
set_option maxRecDepth 1000000 in
theorem okJ_11_0 : (List.range' 0 866).all (fun j => ckJ 11 j) = true := by decide +kernel
theorem okJ_11 (j : Nat) (hj : j < 866) : ckJ 11 j = true := by
  exact rg okJ_11_0 (by omega) (by omega)
set_option maxRecDepth 1000000 in
theorem okJ_12_0 : (List.range' 0 866).all (fun j => ckJ 12 j) = true := by decide +kernel
theorem okJ_12 (j : Nat) (hj : j < 866) : ckJ 12 j = true := by
  exact rg okJ_12_0 (by omega) (by omega)
set_option maxRecDepth 1000000 in
theorem okJ_13_0 : (List.range' 0 261).all (fun j => ckJ 13 j) = true := by decide +kernel
set_option maxRecDepth 1000000 in
theorem okJ_13_1 : (List.range' 261 80).all (fun j => ckJ 13 j) = true := by decide +kernel
set_option maxRecDepth 1000000 in
theorem okJ_13_2 : (List.range' 341 431).all (fun j => ckJ 13 j) = true := by decide +kernel
set_option maxRecDepth 1000000 in
theorem okJ_13_3 : (List.range' 772 94).all (fun j => ckJ 13 j) = true := by decide +kernel
theorem okJ_13 (j : Nat) (hj : j < 866) : ckJ 13 j = true := by
  rcases Nat.lt_or_ge j 261 with h | h
  · exact rg okJ_13_0 (by omega) (by omega)
  rcases Nat.lt_or_ge j 341 with h | h
  · exact rg okJ_13_1 (by omega) (by omega)
  rcases Nat.lt_or_ge j 772 with h | h
  · exact rg okJ_13_2 (by omega) (by omega)
  exact rg okJ_13_3 (by omega) (by omega)
set_option maxRecDepth 1000000 in
theorem okJ_14_0 : (List.range' 0 866).all (fun j => ckJ 14 j) = true := by decide +kernel
theorem okJ_14 (j : Nat) (hj : j < 866) : ckJ 14 j = true := by
  exact rg okJ_14_0 (by omega) (by omega)
set_option maxRecDepth 1000000 in
theorem okJ_15_0 : (List.range' 0 866).all (fun j => ckJ 15 j) = true := by decide +kernel
theorem okJ_15 (j : Nat) (hj : j < 866) : ckJ 15 j = true := by
  exact rg okJ_15_0 (by omega) (by omega)
set_option maxRecDepth 1000000 in
theorem okJ_16_0 : (List.range' 0 866).all (fun j => ckJ 16 j) = true := by decide +kernel
theorem okJ_16 (j : Nat) (hj : j < 866) : ckJ 16 j = true := by
  exact rg okJ_16_0 (by omega) (by omega)
theorem okJ_ok (c j : Nat) : ckJ c j = true := by
  by_cases hc : c < 17 ∧ j < 866
  · obtain ⟨h1, h2⟩ := hc
    rcases (show c = 0 ∨ c = 1 ∨ c = 2 ∨ c = 3 ∨ c = 4 ∨ c = 5 ∨ c = 6 ∨ c = 7 ∨ c = 8 ∨ c = 9 ∨ c = 10 ∨ c = 11 ∨ c = 12 ∨ c = 13 ∨ c = 14 ∨ c = 15 ∨ c = 16 by omega) with rfl | rfl | rfl | rfl | rfl | rfl | rfl | rfl | rfl | rfl | rfl | rfl | rfl | rfl | rfl | rfl | rfl
    · exact okJ_0 j h2
    · exact okJ_1 j h2
    · exact okJ_2 j h2
    · exact okJ_3 j h2
    · exact okJ_4 j h2
    · exact okJ_5 j h2
    · exact okJ_6 j h2
    · exact okJ_7 j h2
    · exact okJ_8 j h2
    · exact okJ_9 j h2
    · exact okJ_10 j h2
    · exact okJ_11 j h2
    · exact okJ_12 j h2
    · exact okJ_13 j h2
    · exact okJ_14 j h2
    · exact okJ_15 j h2
    · exact okJ_16 j h2
  · have h0 : rJ c j = none := by
      unfold rJ
      have : (Nat.blt c 17 && Nat.blt j 866) = false := by
        rw [Bool.and_eq_false_iff]
        rcases Nat.lt_or_ge c 17 with q | q
        · rcases Nat.lt_or_ge j 866 with z | z
          · exact absurd ⟨q, z⟩ hc
          · exact Or.inr (by rw [← Bool.not_eq_true]; exact fun h => absurd (Nat.le_of_ble_eq_true h) (by omega))
        · exact Or.inl (by rw [← Bool.not_eq_true]; exact fun h => absurd (Nat.le_of_ble_eq_true h) (by omega))
      rw [this]
      rfl
    unfold ckJ
    rw [h0]
set_option maxRecDepth 1000000 in
theorem okN_0_0 : (List.range' 0 85).all (fun j => ckN 0 j) = true := by decide +kernel
theorem okN_0 (j : Nat) (hj : j < 85) : ckN 0 j = true := by
  exact rg okN_0_0 (by omega) (by omega)
set_option maxRecDepth 1000000 in
theorem okN_1_0 : (List.range' 0 85).all (fun j => ckN 1 j) = true := by decide +kernel
theorem okN_1 (j : Nat) (hj : j < 85) : ckN 1 j = true := by
  exact rg okN_1_0 (by omega) (by omega)
set_option maxRecDepth 1000000 in
theorem okN_2_0 : (List.range' 0 85).all (fun j => ckN 2 j) = true := by decide +kernel
theorem okN_2 (j : Nat) (hj : j < 85) : ckN 2 j = true := by
  exact rg okN_2_0 (by omega) (by omega)
set_option maxRecDepth 1000000 in
theorem okN_3_0 : (List.range' 0 85).all (fun j => ckN 3 j) = true := by decide +kernel
theorem okN_3 (j : Nat) (hj : j < 85) : ckN 3 j = true := by
  exact rg okN_3_0 (by omega) (by omega)
set_option maxRecDepth 1000000 in
theorem okN_4_0 : (List.range' 0 85).all (fun j => ckN 4 j) = true := by decide +kernel
theorem okN_4 (j : Nat) (hj : j < 85) : ckN 4 j = true := by
  exact rg okN_4_0 (by omega) (by omega)
set_option maxRecDepth 1000000 in
theorem okN_5_0 : (List.range' 0 85).all (fun j => ckN 5 j) = true := by decide +kernel
theorem okN_5 (j : Nat) (hj : j < 85) : ckN 5 j = true := by
  exact rg okN_5_0 (by omega) (by omega)
set_option maxRecDepth 1000000 in
theorem okN_6_0 : (List.range' 0 85).all (fun j => ckN 6 j) = true := by decide +kernel
theorem okN_6 (j : Nat) (hj : j < 85) : ckN 6 j = true := by
  exact rg okN_6_0 (by omega) (by omega)
set_option maxRecDepth 1000000 in
theorem okN_7_0 : (List.range' 0 85).all (fun j => ckN 7 j) = true := by decide +kernel
theorem okN_7 (j : Nat) (hj : j < 85) : ckN 7 j = true := by
  exact rg okN_7_0 (by omega) (by omega)
set_option maxRecDepth 1000000 in
theorem okN_8_0 : (List.range' 0 85).all (fun j => ckN 8 j) = true := by decide +kernel
theorem okN_8 (j : Nat) (hj : j < 85) : ckN 8 j = true := by
  exact rg okN_8_0 (by omega) (by omega)
set_option maxRecDepth 1000000 in
theorem okN_9_0 : (List.range' 0 85).all (fun j => ckN 9 j) = true := by decide +kernel
theorem okN_9 (j : Nat) (hj : j < 85) : ckN 9 j = true := by
  exact rg okN_9_0 (by omega) (by omega)
set_option maxRecDepth 1000000 in
theorem okN_10_0 : (List.range' 0 85).all (fun j => ckN 10 j) = true := by decide +kernel
theorem okN_10 (j : Nat) (hj : j < 85) : ckN 10 j = true := by
  exact rg okN_10_0 (by omega) (by omega)
set_option maxRecDepth 1000000 in
theorem okN_11_0 : (List.range' 0 85).all (fun j => ckN 11 j) = true := by decide +kernel
theorem okN_11 (j : Nat) (hj : j < 85) : ckN 11 j = true := by
  exact rg okN_11_0 (by omega) (by omega)
set_option maxRecDepth 1000000 in
theorem okN_12_0 : (List.range' 0 85).all (fun j => ckN 12 j) = true := by decide +kernel
theorem okN_12 (j : Nat) (hj : j < 85) : ckN 12 j = true := by
  exact rg okN_12_0 (by omega) (by omega)
set_option maxRecDepth 1000000 in
theorem okN_13_0 : (List.range' 0 85).all (fun j => ckN 13 j) = true := by decide +kernel
theorem okN_13 (j : Nat) (hj : j < 85) : ckN 13 j = true := by
  exact rg okN_13_0 (by omega) (by omega)
set_option maxRecDepth 1000000 in
theorem okN_14_0 : (List.range' 0 85).all (fun j => ckN 14 j) = true := by decide +kernel
theorem okN_14 (j : Nat) (hj : j < 85) : ckN 14 j = true := by
  exact rg okN_14_0 (by omega) (by omega)
set_option maxRecDepth 1000000 in
theorem okN_15_0 : (List.range' 0 85).all (fun j => ckN 15 j) = true := by decide +kernel
theorem okN_15 (j : Nat) (hj : j < 85) : ckN 15 j = true := by
  exact rg okN_15_0 (by omega) (by omega)
set_option maxRecDepth 1000000 in
theorem okN_16_0 : (List.range' 0 85).all (fun j => ckN 16 j) = true := by decide +kernel
theorem okN_16 (j : Nat) (hj : j < 85) : ckN 16 j = true := by
  exact rg okN_16_0 (by omega) (by omega)
theorem okN_ok (c j : Nat) : ckN c j = true := by
  by_cases hc : c < 17 ∧ j < 85
  · obtain ⟨h1, h2⟩ := hc
    rcases (show c = 0 ∨ c = 1 ∨ c = 2 ∨ c = 3 ∨ c = 4 ∨ c = 5 ∨ c = 6 ∨ c = 7 ∨ c = 8 ∨ c = 9 ∨ c = 10 ∨ c = 11 ∨ c = 12 ∨ c = 13 ∨ c = 14 ∨ c = 15 ∨ c = 16 by omega) with rfl | rfl | rfl | rfl | rfl | rfl | rfl | rfl | rfl | rfl | rfl | rfl | rfl | rfl | rfl | rfl | rfl
    · exact okN_0 j h2
    · exact okN_1 j h2
    · exact okN_2 j h2
    · exact okN_3 j h2
    · exact okN_4 j h2
    · exact okN_5 j h2
    · exact okN_6 j h2
    · exact okN_7 j h2
    · exact okN_8 j h2
    · exact okN_9 j h2
    · exact okN_10 j h2
    · exact okN_11 j h2
    · exact okN_12 j h2
    · exact okN_13 j h2
    · exact okN_14 j h2
    · exact okN_15 j h2
    · exact okN_16 j h2
  · have h0 : rN c j = none := by
      unfold rN
      have : (Nat.blt c 17 && Nat.blt j 85) = false := by
        rw [Bool.and_eq_false_iff]
        rcases Nat.lt_or_ge c 17 with q | q
        · rcases Nat.lt_or_ge j 85 with z | z
          · exact absurd ⟨q, z⟩ hc
          · exact Or.inr (by rw [← Bool.not_eq_true]; exact fun h => absurd (Nat.le_of_ble_eq_true h) (by omega))
        · exact Or.inl (by rw [← Bool.not_eq_true]; exact fun h => absurd (Nat.le_of_ble_eq_true h) (by omega))
      rw [this]
      rfl
    unfold ckN
    rw [h0]
set_option maxRecDepth 1000000 in
theorem okW_0 : ckW 0 = true := by decide +kernel
set_option maxRecDepth 1000000 in
theorem okW_1 : ckW 1 = true := by decide +kernel
set_option maxRecDepth 1000000 in
theorem okW_2 : ckW 2 = true := by decide +kernel
set_option maxRecDepth 1000000 in
theorem okW_3 : ckW 3 = true := by decide +kernel
set_option maxRecDepth 1000000 in
theorem okW_4 : ckW 4 = true := by decide +kernel
set_option maxRecDepth 1000000 in
theorem okW_5 : ckW 5 = true := by decide +kernel
set_option maxRecDepth 1000000 in
theorem okW_6 : ckW 6 = true := by decide +kernel
set_option maxRecDepth 1000000 in
theorem okW_7 : ckW 7 = true := by decide +kernel
set_option maxRecDepth 1000000 in
theorem okW_8 : ckW 8 = true := by decide +kernel
set_option maxRecDepth 1000000 in
theorem okW_9 : ckW 9 = true := by decide +kernel
set_option maxRecDepth 1000000 in
theorem okW_10 : ckW 10 = true := by decide +kernel
set_option maxRecDepth 1000000 in
theorem okW_11 : ckW 11 = true := by decide +kernel
set_option maxRecDepth 1000000 in
theorem okW_12 : ckW 12 = true := by decide +kernel
set_option maxRecDepth 1000000 in
theorem okW_13 : ckW 13 = true := by decide +kernel
theorem okW_ok (c : Nat) (hc : c < 14) : ckW c = true := by
  rcases (show c = 0 ∨ c = 1 ∨ c = 2 ∨ c = 3 ∨ c = 4 ∨ c = 5 ∨ c = 6 ∨ c = 7 ∨ c = 8 ∨ c = 9 ∨ c = 10 ∨ c = 11 ∨ c = 12 ∨ c = 13 by omega) with rfl | rfl | rfl | rfl | rfl | rfl | rfl | rfl | rfl | rfl | rfl | rfl | rfl | rfl
  · exact okW_0
  · exact okW_1
  · exact okW_2
  · exact okW_3
  · exact okW_4
  · exact okW_5
  · exact okW_6
  · exact okW_7
  · exact okW_8
  · exact okW_9
  · exact okW_10
  · exact okW_11
  · exact okW_12
  · exact okW_13
