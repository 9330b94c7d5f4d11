/-! all of the data is as the tables have it -/
theorem okG_ok (k : Nat) (hk : k < 407) : ckG k = true := by
  rcases Nat.lt_or_ge k 20 with h | h
  · exact rg okG_0 (by omega) (by omega)
  rcases Nat.lt_or_ge k 41 with h | h
  · exact rg okG_1 (by omega) (by omega)
  rcases Nat.lt_or_ge k 56 with h | h
  · exact rg okG_2 (by omega) (by omega)
  rcases Nat.lt_or_ge k 82 with h | h
  · exact rg okG_3 (by omega) (by omega)
  rcases Nat.lt_or_ge k 92 with h | h
  · exact rg okG_4 (by omega) (by omega)
  rcases Nat.lt_or_ge k 108 with h | h
  · exact rg okG_5 (by omega) (by omega)
  rcases Nat.lt_or_ge k 126 with h | h
  · exact rg okG_6 (by omega) (by omega)
  rcases Nat.lt_or_ge k 153 with h | h
  · exact rg okG_7 (by omega) (by omega)
  rcases Nat.lt_or_ge k 173 with h | h
  · exact rg okG_8 (by omega) (by omega)
  rcases Nat.lt_or_ge k 199 with h | h
  · exact rg okG_9 (by omega) (by omega)
  rcases Nat.lt_or_ge k 229 with h | h
  · exact rg okG_10 (by omega) (by omega)
  rcases Nat.lt_or_ge k 255 with h | h
  · exact rg okG_11 (by omega) (by omega)
  rcases Nat.lt_or_ge k 266 with h | h
  · exact rg okG_12 (by omega) (by omega)
  rcases Nat.lt_or_ge k 279 with h | h
  · exact rg okG_13 (by omega) (by omega)
  rcases Nat.lt_or_ge k 295 with h | h
  · exact rg okG_14 (by omega) (by omega)
  rcases Nat.lt_or_ge k 297 with h | h
  · exact rg okG_15 (by omega) (by omega)
  rcases Nat.lt_or_ge k 305 with h | h
  · exact rg okG_16 (by omega) (by omega)
  rcases Nat.lt_or_ge k 313 with h | h
  · exact rg okG_17 (by omega) (by omega)
  rcases Nat.lt_or_ge k 327 with h | h
  · exact rg okG_18 (by omega) (by omega)
  rcases Nat.lt_or_ge k 343 with h | h
  · exact rg okG_19 (by omega) (by omega)
  rcases Nat.lt_or_ge k 353 with h | h
  · exact rg okG_20 (by omega) (by omega)
  rcases Nat.lt_or_ge k 373 with h | h
  · exact rg okG_21 (by omega) (by omega)
  rcases Nat.lt_or_ge k 390 with h | h
  · exact rg okG_22 (by omega) (by omega)
  rcases Nat.lt_or_ge k 397 with h | h
  · exact rg okG_23 (by omega) (by omega)
  rcases Nat.lt_or_ge k 406 with h | h
  · exact rg okG_24 (by omega) (by omega)
  exact rg okG_25 (by omega) (by omega)
theorem okD_ok (k pc : Nat) : ckD k pc = true := by
  by_cases h : k < 407 ∧ pc < mLen k
  · have g := Bool.and_eq_true_iff.mp (okG_ok k h.1)
    exact ckE_D g.1 (List.all_eq_true.mp (Bool.and_eq_true_iff.mp g.2).1 pc (List.mem_range.mpr h.2))
  · have h0 : mI k pc = none := by
      unfold mI
      have : (Nat.blt k 407 && Nat.blt pc (mLen k)) = false := by
        rw [Bool.and_eq_false_iff]
        rcases Nat.lt_or_ge k 407 with q | q
        · rcases Nat.lt_or_ge pc (mLen k) with z | z
          · exact absurd ⟨q, z⟩ h
          · exact Or.inr (by rw [← Bool.not_eq_true]; exact fun h => absurd (Nat.le_of_ble_eq_true h) (by omega))
        · exact Or.inl (by rw [← Bool.not_eq_true]; exact fun h => absurd (Nat.le_of_ble_eq_true h) (by omega))
      rw [this]
      rfl
    unfold ckD
    rw [h0]
theorem okK_ok (k : Nat) (hk : k < 406) : ckK k = true := by
  have h := (Bool.and_eq_true_iff.mp (Bool.and_eq_true_iff.mp (okG_ok k (by omega))).2).2
  have hB := (Bool.and_eq_true_iff.mp (okG_ok k (by omega))).1
  rcases Bool.or_eq_true_iff.mp h with h | h
  · exact absurd (Nat.eq_of_beq_eq_true h) (by omega)
  · exact ckC_K hB h
theorem dataOk : DataOk := ⟨⟨okF_ok, okM_ok, okI_ok, okJ_ok, okN_ok⟩, ⟨okW_ok, okK_ok, okK2_ok, okD_ok⟩, ⟨okCl, okNm, okTy, okAr⟩⟩
