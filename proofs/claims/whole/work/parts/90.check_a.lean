/-! the data's checks: fields -/
theorem rg {f : Nat → Bool} {a n j : Nat} (h : (List.range' a n).all f = true) (h1 : a ≤ j) (h2 : j < a + n) : f j = true := List.all_eq_true.mp h j (List.mem_range'_1.mpr ⟨h1, h2⟩)
set_option maxRecDepth 1000000 in
theorem okF_0_0 : (List.range' 0 906).all (fun j => ckF 0 j) = true := by decide +kernel
theorem okF_0 (j : Nat) (hj : j < 906) : ckF 0 j = true := by
  exact rg okF_0_0 (by omega) (by omega)
set_option maxRecDepth 1000000 in
theorem okF_1_0 : (List.range' 0 906).all (fun j => ckF 1 j) = true := by decide +kernel
theorem okF_1 (j : Nat) (hj : j < 906) : ckF 1 j = true := by
  exact rg okF_1_0 (by omega) (by omega)
set_option maxRecDepth 1000000 in
theorem okF_2_0 : (List.range' 0 906).all (fun j => ckF 2 j) = true := by decide +kernel
theorem okF_2 (j : Nat) (hj : j < 906) : ckF 2 j = true := by
  exact rg okF_2_0 (by omega) (by omega)
set_option maxRecDepth 1000000 in
theorem okF_3_0 : (List.range' 0 906).all (fun j => ckF 3 j) = true := by decide +kernel
theorem okF_3 (j : Nat) (hj : j < 906) : ckF 3 j = true := by
  exact rg okF_3_0 (by omega) (by omega)
set_option maxRecDepth 1000000 in
theorem okF_4_0 : (List.range' 0 906).all (fun j => ckF 4 j) = true := by decide +kernel
theorem okF_4 (j : Nat) (hj : j < 906) : ckF 4 j = true := by
  exact rg okF_4_0 (by omega) (by omega)
set_option maxRecDepth 1000000 in
theorem okF_5_0 : (List.range' 0 906).all (fun j => ckF 5 j) = true := by decide +kernel
theorem okF_5 (j : Nat) (hj : j < 906) : ckF 5 j = true := by
  exact rg okF_5_0 (by omega) (by omega)
set_option maxRecDepth 1000000 in
theorem okF_6_0 : (List.range' 0 906).all (fun j => ckF 6 j) = true := by decide +kernel
theorem okF_6 (j : Nat) (hj : j < 906) : ckF 6 j = true := by
  exact rg okF_6_0 (by omega) (by omega)
set_option maxRecDepth 1000000 in
theorem okF_7_0 : (List.range' 0 906).all (fun j => ckF 7 j) = true := by decide +kernel
theorem okF_7 (j : Nat) (hj : j < 906) : ckF 7 j = true := by
  exact rg okF_7_0 (by omega) (by omega)
set_option maxRecDepth 1000000 in
theorem okF_8_0 : (List.range' 0 906).all (fun j => ckF 8 j) = true := by decide +kernel
theorem okF_8 (j : Nat) (hj : j < 906) : ckF 8 j = true := by
  exact rg okF_8_0 (by omega) (by omega)
set_option maxRecDepth 1000000 in
theorem okF_9_0 : (List.range' 0 906).all (fun j => ckF 9 j) = true := by decide +kernel
theorem okF_9 (j : Nat) (hj : j < 906) : ckF 9 j = true := by
  exact rg okF_9_0 (by omega) (by omega)
set_option maxRecDepth 1000000 in
theorem okF_10_0 : (List.range' 0 906).all (fun j => ckF 10 j) = true := by decide +kernel
theorem okF_10 (j : Nat) (hj : j < 906) : ckF 10 j = true := by
  exact rg okF_10_0 (by omega) (by omega)
set_option maxRecDepth 1000000 in
theorem okF_11_0 : (List.range' 0 906).all (fun j => ckF 11 j) = true := by decide +kernel
theorem okF_11 (j : Nat) (hj : j < 906) : ckF 11 j = true := by
  exact rg okF_11_0 (by omega) (by omega)
set_option maxRecDepth 1000000 in
theorem okF_12_0 : (List.range' 0 906).all (fun j => ckF 12 j) = true := by decide +kernel
theorem okF_12 (j : Nat) (hj : j < 906) : ckF 12 j = true := by
  exact rg okF_12_0 (by omega) (by omega)
set_option maxRecDepth 1000000 in
theorem okF_13_0 : (List.range' 0 387).all (fun j => ckF 13 j) = true := by decide +kernel
set_option maxRecDepth 1000000 in
theorem okF_13_1 : (List.range' 387 495).all (fun j => ckF 13 j) = true := by decide +kernel
set_option maxRecDepth 1000000 in
theorem okF_13_2 : (List.range' 882 24).all (fun j => ckF 13 j) = true := by decide +kernel
theorem okF_13 (j : Nat) (hj : j < 906) : ckF 13 j = true := by
  rcases Nat.lt_or_ge j 387 with h | h
  · exact rg okF_13_0 (by omega) (by omega)
  rcases Nat.lt_or_ge j 882 with h | h
  · exact rg okF_13_1 (by omega) (by omega)
  exact rg okF_13_2 (by omega) (by omega)
set_option maxRecDepth 1000000 in
theorem okF_14_0 : (List.range' 0 906).all (fun j => ckF 14 j) = true := by decide +kernel
theorem okF_14 (j : Nat) (hj : j < 906) : ckF 14 j = true := by
  exact rg okF_14_0 (by omega) (by omega)
set_option maxRecDepth 1000000 in
theorem okF_15_0 : (List.range' 0 906).all (fun j => ckF 15 j) = true := by decide +kernel
theorem okF_15 (j : Nat) (hj : j < 906) : ckF 15 j = true := by
  exact rg okF_15_0 (by omega) (by omega)
set_option maxRecDepth 1000000 in
theorem okF_16_0 : (List.range' 0 906).all (fun j => ckF 16 j) = true := by decide +kernel
theorem okF_16 (j : Nat) (hj : j < 906) : ckF 16 j = true := by
  exact rg okF_16_0 (by omega) (by omega)
theorem okF_ok (c j : Nat) : ckF c j = true := by
  by_cases hc : c < 17 ∧ j < 906
  · obtain ⟨h1, h2⟩ := hc
    rcases (show c = 0 ∨ c = 1 ∨ c = 2 ∨ c = 3 ∨ c = 4 ∨ c = 5 ∨ c = 6 ∨ c = 7 ∨ c = 8 ∨ c = 9 ∨ c = 10 ∨ c = 11 ∨ c = 12 ∨ c = 13 ∨ c = 14 ∨ c = 15 ∨ c = 16 by omega) with rfl | rfl | rfl | rfl | rfl | rfl | rfl | rfl | rfl | rfl | rfl | rfl | rfl | rfl | rfl | rfl | rfl
    · exact okF_0 j h2
    · exact okF_1 j h2
    · exact okF_2 j h2
    · exact okF_3 j h2
    · exact okF_4 j h2
    · exact okF_5 j h2
    · exact okF_6 j h2
    · exact okF_7 j h2
    · exact okF_8 j h2
    · exact okF_9 j h2
    · exact okF_10 j h2
    · exact okF_11 j h2
    · exact okF_12 j h2
    · exact okF_13 j h2
    · exact okF_14 j h2
    · exact okF_15 j h2
    · exact okF_16 j h2
  · have h0 : rF c j = none := by
      unfold rF
      have : (Nat.blt c 17 && Nat.blt j 906) = false := by
        rw [Bool.and_eq_false_iff]
        rcases Nat.lt_or_ge c 17 with q | q
        · rcases Nat.lt_or_ge j 906 with z | z
          · exact absurd ⟨q, z⟩ hc
          · exact Or.inr (by rw [← Bool.not_eq_true]; exact fun h => absurd (Nat.le_of_ble_eq_true h) (by omega))
        · exact Or.inl (by rw [← Bool.not_eq_true]; exact fun h => absurd (Nat.le_of_ble_eq_true h) (by omega))
      rw [this]
      rfl
    unfold ckF
    rw [h0]
