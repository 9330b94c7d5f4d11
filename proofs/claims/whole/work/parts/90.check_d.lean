/-! the data's checks: names, classes, arrays -/
set_option maxRecDepth 1000000 in
theorem okK2_0 : (List.range' 0 50).all (fun k => ckK2 k) = true := by decide +kernel
set_option maxRecDepth 1000000 in
theorem okK2_1 : (List.range' 50 50).all (fun k => ckK2 k) = true := by decide +kernel
set_option maxRecDepth 1000000 in
theorem okK2_2 : (List.range' 100 50).all (fun k => ckK2 k) = true := by decide +kernel
set_option maxRecDepth 1000000 in
theorem okK2_3 : (List.range' 150 50).all (fun k => ckK2 k) = true := by decide +kernel
set_option maxRecDepth 1000000 in
theorem okK2_4 : (List.range' 200 50).all (fun k => ckK2 k) = true := by decide +kernel
set_option maxRecDepth 1000000 in
theorem okK2_5 : (List.range' 250 50).all (fun k => ckK2 k) = true := by decide +kernel
set_option maxRecDepth 1000000 in
theorem okK2_6 : (List.range' 300 50).all (fun k => ckK2 k) = true := by decide +kernel
set_option maxRecDepth 1000000 in
theorem okK2_7 : (List.range' 350 50).all (fun k => ckK2 k) = true := by decide +kernel
set_option maxRecDepth 1000000 in
theorem okK2_8 : (List.range' 400 7).all (fun k => ckK2 k) = true := by decide +kernel
theorem okK2_ok (k : Nat) (hk : k < 407) : ckK2 k = true := by
  rcases Nat.lt_or_ge k 50 with h | h
  · exact rg okK2_0 (by omega) (by omega)
  rcases Nat.lt_or_ge k 100 with h | h
  · exact rg okK2_1 (by omega) (by omega)
  rcases Nat.lt_or_ge k 150 with h | h
  · exact rg okK2_2 (by omega) (by omega)
  rcases Nat.lt_or_ge k 200 with h | h
  · exact rg okK2_3 (by omega) (by omega)
  rcases Nat.lt_or_ge k 250 with h | h
  · exact rg okK2_4 (by omega) (by omega)
  rcases Nat.lt_or_ge k 300 with h | h
  · exact rg okK2_5 (by omega) (by omega)
  rcases Nat.lt_or_ge k 350 with h | h
  · exact rg okK2_6 (by omega) (by omega)
  rcases Nat.lt_or_ge k 400 with h | h
  · exact rg okK2_7 (by omega) (by omega)
  exact rg okK2_8 (by omega) (by omega)
theorem okCl (c : Nat) (hc : c < 14) : vwCl[c]? = some (cN c, cT c, cF c) := by
  rcases (show c = 0 ∨ c = 1 ∨ c = 2 ∨ c = 3 ∨ c = 4 ∨ c = 5 ∨ c = 6 ∨ c = 7 ∨ c = 8 ∨ c = 9 ∨ c = 10 ∨ c = 11 ∨ c = 12 ∨ c = 13 by omega) with rfl | rfl | rfl | rfl | rfl | rfl | rfl | rfl | rfl | rfl | rfl | rfl | rfl | rfl <;> rfl
theorem okNm (c : Nat) (hc : c < 14) : ∀ a, a < cF c → ∀ b, b < cF c → a ≠ b → (cT c a).2.1 ≠ (cT c b).2.1 := by
  rcases (show c = 0 ∨ c = 1 ∨ c = 2 ∨ c = 3 ∨ c = 4 ∨ c = 5 ∨ c = 6 ∨ c = 7 ∨ c = 8 ∨ c = 9 ∨ c = 10 ∨ c = 11 ∨ c = 12 ∨ c = 13 by omega) with rfl | rfl | rfl | rfl | rfl | rfl | rfl | rfl | rfl | rfl | rfl | rfl | rfl | rfl
  · exact nmX0
  · exact nmX1
  · exact nmX2
  · exact nmX3
  · exact nmX4
  · exact nmX5
  · exact nmX6
  · exact nmX7
  · exact nmX8
  · exact nmX9
  · exact nmX10
  · exact nmX11
  · exact nmX12
  · exact nmX13
theorem okT_0 : (List.range (cF 0)).all (fun f => vmTyOk (cTy 0 f)) = true := by decide +kernel
theorem okT_1 : (List.range (cF 1)).all (fun f => vmTyOk (cTy 1 f)) = true := by decide +kernel
theorem okT_2 : (List.range (cF 2)).all (fun f => vmTyOk (cTy 2 f)) = true := by decide +kernel
theorem okT_3 : (List.range (cF 3)).all (fun f => vmTyOk (cTy 3 f)) = true := by decide +kernel
theorem okT_4 : (List.range (cF 4)).all (fun f => vmTyOk (cTy 4 f)) = true := by decide +kernel
theorem okT_5 : (List.range (cF 5)).all (fun f => vmTyOk (cTy 5 f)) = true := by decide +kernel
theorem okT_6 : (List.range (cF 6)).all (fun f => vmTyOk (cTy 6 f)) = true := by decide +kernel
theorem okT_7 : (List.range (cF 7)).all (fun f => vmTyOk (cTy 7 f)) = true := by decide +kernel
theorem okT_8 : (List.range (cF 8)).all (fun f => vmTyOk (cTy 8 f)) = true := by decide +kernel
theorem okT_9 : (List.range (cF 9)).all (fun f => vmTyOk (cTy 9 f)) = true := by decide +kernel
theorem okT_10 : (List.range (cF 10)).all (fun f => vmTyOk (cTy 10 f)) = true := by decide +kernel
theorem okT_11 : (List.range (cF 11)).all (fun f => vmTyOk (cTy 11 f)) = true := by decide +kernel
theorem okT_12 : (List.range (cF 12)).all (fun f => vmTyOk (cTy 12 f)) = true := by decide +kernel
theorem okT_13 : (List.range (cF 13)).all (fun f => vmTyOk (cTy 13 f)) = true := by decide +kernel
theorem okTy (c : Nat) (hc : c < 14) : ∀ f, f < cF c → vmTyOk (cTy c f) = true := by
  rcases (show c = 0 ∨ c = 1 ∨ c = 2 ∨ c = 3 ∨ c = 4 ∨ c = 5 ∨ c = 6 ∨ c = 7 ∨ c = 8 ∨ c = 9 ∨ c = 10 ∨ c = 11 ∨ c = 12 ∨ c = 13 by omega) with rfl | rfl | rfl | rfl | rfl | rfl | rfl | rfl | rfl | rfl | rfl | rfl | rfl | rfl
  · exact fun f hf => List.all_eq_true.mp okT_0 f (List.mem_range.mpr hf)
  · exact fun f hf => List.all_eq_true.mp okT_1 f (List.mem_range.mpr hf)
  · exact fun f hf => List.all_eq_true.mp okT_2 f (List.mem_range.mpr hf)
  · exact fun f hf => List.all_eq_true.mp okT_3 f (List.mem_range.mpr hf)
  · exact fun f hf => List.all_eq_true.mp okT_4 f (List.mem_range.mpr hf)
  · exact fun f hf => List.all_eq_true.mp okT_5 f (List.mem_range.mpr hf)
  · exact fun f hf => List.all_eq_true.mp okT_6 f (List.mem_range.mpr hf)
  · exact fun f hf => List.all_eq_true.mp okT_7 f (List.mem_range.mpr hf)
  · exact fun f hf => List.all_eq_true.mp okT_8 f (List.mem_range.mpr hf)
  · exact fun f hf => List.all_eq_true.mp okT_9 f (List.mem_range.mpr hf)
  · exact fun f hf => List.all_eq_true.mp okT_10 f (List.mem_range.mpr hf)
  · exact fun f hf => List.all_eq_true.mp okT_11 f (List.mem_range.mpr hf)
  · exact fun f hf => List.all_eq_true.mp okT_12 f (List.mem_range.mpr hf)
  · exact fun f hf => List.all_eq_true.mp okT_13 f (List.mem_range.mpr hf)
set_option maxRecDepth 1000000 in
theorem okA_int : ckAt 364 (.arrayClass .int) = true := by decide +kernel
set_option maxRecDepth 1000000 in
theorem okA_byte : ckAt 266 (.arrayClass .byte) = true := by decide +kernel
set_option maxRecDepth 1000000 in
theorem okA_boolean : ckAt 604 (.arrayClass .boolean) = true := by decide +kernel
set_option maxRecDepth 1000000 in
theorem okA_long : ckAt 363 (.arrayClass .long) = true := by decide +kernel
theorem okAr (ty : ArrayType) (kd : Nat) (ft : FieldType) (h : vmAt ty = some (kd, ft)) : Cond.arrayClass (newarray.typeOf ty) ∈ TB := by
  unfold vmAt at h
  split at h
  · exact ckAt_TB okA_int
  · exact ckAt_TB okA_byte
  · exact ckAt_TB okA_boolean
  · exact ckAt_TB okA_long
  · cases h
