/-! all of the data is as the tables have it -/
theorem okG_ok (k : Nat) (hk : k < 407) : ((List.range (mLen k)).all (fun pc => ckD k pc) && (Nat.beq k 406 || ckK k)) = true := by
  rcases Nat.lt_or_ge k 13 with h | h
  · exact rg okG_0 (by omega) (by omega)
  rcases Nat.lt_or_ge k 20 with h | h
  · exact rg okG_1 (by omega) (by omega)
  rcases Nat.lt_or_ge k 32 with h | h
  · exact rg okG_2 (by omega) (by omega)
  rcases Nat.lt_or_ge k 39 with h | h
  · exact rg okG_3 (by omega) (by omega)
  rcases Nat.lt_or_ge k 46 with h | h
  · exact rg okG_4 (by omega) (by omega)
  rcases Nat.lt_or_ge k 50 with h | h
  · exact rg okG_5 (by omega) (by omega)
  rcases Nat.lt_or_ge k 58 with h | h
  · exact rg okG_6 (by omega) (by omega)
  rcases Nat.lt_or_ge k 71 with h | h
  · exact rg okG_7 (by omega) (by omega)
  rcases Nat.lt_or_ge k 82 with h | h
  · exact rg okG_8 (by omega) (by omega)
  rcases Nat.lt_or_ge k 86 with h | h
  · exact rg okG_9 (by omega) (by omega)
  rcases Nat.lt_or_ge k 88 with h | h
  · exact rg okG_10 (by omega) (by omega)
  rcases Nat.lt_or_ge k 99 with h | h
  · exact rg okG_11 (by omega) (by omega)
  rcases Nat.lt_or_ge k 106 with h | h
  · exact rg okG_12 (by omega) (by omega)
  rcases Nat.lt_or_ge k 112 with h | h
  · exact rg okG_13 (by omega) (by omega)
  rcases Nat.lt_or_ge k 120 with h | h
  · exact rg okG_14 (by omega) (by omega)
  rcases Nat.lt_or_ge k 133 with h | h
  · exact rg okG_15 (by omega) (by omega)
  rcases Nat.lt_or_ge k 145 with h | h
  · exact rg okG_16 (by omega) (by omega)
  rcases Nat.lt_or_ge k 153 with h | h
  · exact rg okG_17 (by omega) (by omega)
  rcases Nat.lt_or_ge k 166 with h | h
  · exact rg okG_18 (by omega) (by omega)
  rcases Nat.lt_or_ge k 172 with h | h
  · exact rg okG_19 (by omega) (by omega)
  rcases Nat.lt_or_ge k 177 with h | h
  · exact rg okG_20 (by omega) (by omega)
  rcases Nat.lt_or_ge k 193 with h | h
  · exact rg okG_21 (by omega) (by omega)
  rcases Nat.lt_or_ge k 202 with h | h
  · exact rg okG_22 (by omega) (by omega)
  rcases Nat.lt_or_ge k 219 with h | h
  · exact rg okG_23 (by omega) (by omega)
  rcases Nat.lt_or_ge k 235 with h | h
  · exact rg okG_24 (by omega) (by omega)
  rcases Nat.lt_or_ge k 252 with h | h
  · exact rg okG_25 (by omega) (by omega)
  rcases Nat.lt_or_ge k 256 with h | h
  · exact rg okG_26 (by omega) (by omega)
  rcases Nat.lt_or_ge k 264 with h | h
  · exact rg okG_27 (by omega) (by omega)
  rcases Nat.lt_or_ge k 266 with h | h
  · exact rg okG_28 (by omega) (by omega)
  rcases Nat.lt_or_ge k 270 with h | h
  · exact rg okG_29 (by omega) (by omega)
  rcases Nat.lt_or_ge k 278 with h | h
  · exact rg okG_30 (by omega) (by omega)
  rcases Nat.lt_or_ge k 281 with h | h
  · exact rg okG_31 (by omega) (by omega)
  rcases Nat.lt_or_ge k 292 with h | h
  · exact rg okG_32 (by omega) (by omega)
  rcases Nat.lt_or_ge k 295 with h | h
  · exact rg okG_33 (by omega) (by omega)
  rcases Nat.lt_or_ge k 296 with h | h
  · exact rg okG_34 (by omega) (by omega)
  rcases Nat.lt_or_ge k 297 with h | h
  · exact rg okG_35 (by omega) (by omega)
  rcases Nat.lt_or_ge k 298 with h | h
  · exact rg okG_36 (by omega) (by omega)
  rcases Nat.lt_or_ge k 299 with h | h
  · exact rg okG_37 (by omega) (by omega)
  rcases Nat.lt_or_ge k 308 with h | h
  · exact rg okG_38 (by omega) (by omega)
  rcases Nat.lt_or_ge k 309 with h | h
  · exact rg okG_39 (by omega) (by omega)
  rcases Nat.lt_or_ge k 310 with h | h
  · exact rg okG_40 (by omega) (by omega)
  rcases Nat.lt_or_ge k 312 with h | h
  · exact rg okG_41 (by omega) (by omega)
  rcases Nat.lt_or_ge k 314 with h | h
  · exact rg okG_42 (by omega) (by omega)
  rcases Nat.lt_or_ge k 316 with h | h
  · exact rg okG_43 (by omega) (by omega)
  rcases Nat.lt_or_ge k 323 with h | h
  · exact rg okG_44 (by omega) (by omega)
  rcases Nat.lt_or_ge k 327 with h | h
  · exact rg okG_45 (by omega) (by omega)
  rcases Nat.lt_or_ge k 328 with h | h
  · exact rg okG_46 (by omega) (by omega)
  rcases Nat.lt_or_ge k 341 with h | h
  · exact rg okG_47 (by omega) (by omega)
  rcases Nat.lt_or_ge k 342 with h | h
  · exact rg okG_48 (by omega) (by omega)
  rcases Nat.lt_or_ge k 343 with h | h
  · exact rg okG_49 (by omega) (by omega)
  rcases Nat.lt_or_ge k 344 with h | h
  · exact rg okG_50 (by omega) (by omega)
  rcases Nat.lt_or_ge k 345 with h | h
  · exact rg okG_51 (by omega) (by omega)
  rcases Nat.lt_or_ge k 346 with h | h
  · exact rg okG_52 (by omega) (by omega)
  rcases Nat.lt_or_ge k 353 with h | h
  · exact rg okG_53 (by omega) (by omega)
  rcases Nat.lt_or_ge k 358 with h | h
  · exact rg okG_54 (by omega) (by omega)
  rcases Nat.lt_or_ge k 359 with h | h
  · exact rg okG_55 (by omega) (by omega)
  rcases Nat.lt_or_ge k 372 with h | h
  · exact rg okG_56 (by omega) (by omega)
  rcases Nat.lt_or_ge k 374 with h | h
  · exact rg okG_57 (by omega) (by omega)
  rcases Nat.lt_or_ge k 384 with h | h
  · exact rg okG_58 (by omega) (by omega)
  rcases Nat.lt_or_ge k 387 with h | h
  · exact rg okG_59 (by omega) (by omega)
  rcases Nat.lt_or_ge k 392 with h | h
  · exact rg okG_60 (by omega) (by omega)
  rcases Nat.lt_or_ge k 394 with h | h
  · exact rg okG_61 (by omega) (by omega)
  rcases Nat.lt_or_ge k 396 with h | h
  · exact rg okG_62 (by omega) (by omega)
  rcases Nat.lt_or_ge k 397 with h | h
  · exact rg okG_63 (by omega) (by omega)
  rcases Nat.lt_or_ge k 398 with h | h
  · exact rg okG_64 (by omega) (by omega)
  rcases Nat.lt_or_ge k 400 with h | h
  · exact rg okG_65 (by omega) (by omega)
  rcases Nat.lt_or_ge k 401 with h | h
  · exact rg okG_66 (by omega) (by omega)
  rcases Nat.lt_or_ge k 406 with h | h
  · exact rg okG_67 (by omega) (by omega)
  exact rg okG_68 (by omega) (by omega)
theorem okD_ok (k pc : Nat) : ckD k pc = true := by
  by_cases h : k < 407 ∧ pc < mLen k
  · exact List.all_eq_true.mp (Bool.and_eq_true_iff.mp (okG_ok k h.1)).1 pc (List.mem_range.mpr h.2)
  · have h0 : mI k pc = none := by
      unfold mI
      have : (Nat.blt k 407 && Nat.blt pc (mLen k)) = false := by
        rw [Bool.and_eq_false_iff]
        rcases Nat.lt_or_ge k 407 with q | q
        · rcases Nat.lt_or_ge pc (mLen k) with z | z
          · exact absurd ⟨q, z⟩ h
          · exact Or.inr (by rw [← Bool.not_eq_true]; exact fun h => absurd (Nat.le_of_ble_eq_true h) (by omega))
        · exact Or.inl (by rw [← Bool.not_eq_true]; exact fun h => absurd (Nat.le_of_ble_eq_true h) (by omega))
      rw [this]
      rfl
    unfold ckD
    rw [h0]
theorem okK_ok (k : Nat) (hk : k < 406) : ckK k = true := by
  have h := (Bool.and_eq_true_iff.mp (okG_ok k (by omega))).2
  rcases Bool.or_eq_true_iff.mp h with h | h
  · exact absurd (Nat.eq_of_beq_eq_true h) (by omega)
  · exact h
theorem dataOk : DataOk := ⟨⟨okF_ok, okM_ok, okI_ok, okJ_ok, okN_ok⟩, ⟨okW_ok, okK_ok, okK2_ok, okD_ok⟩, ⟨okCl, okNm, okTy, okAr⟩⟩
