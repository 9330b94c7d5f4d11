/-! the data's checks: decode and code words -/
theorem okBig {k : Nat} (h : ∀ pc, pc < mLen k → ckD k pc = true) (h2 : (Nat.beq k 406 || ckK k) = true) : (List.range' k 1).all (fun k => (List.range (mLen k)).all (fun pc => ckD k pc) && (Nat.beq k 406 || ckK k)) = true := by
  refine List.all_eq_true.mpr (fun x hx => ?_)
  obtain rfl : x = k := by
    have := List.mem_range'_1.mp hx
    omega
  rw [h2, Bool.and_true]
  exact List.all_eq_true.mpr (fun pc hpc => h pc (List.mem_range.mp hpc))
set_option maxRecDepth 1000000 in
theorem okP_295_0 : (List.range' 0 300).all (fun pc => ckD 295 pc) = true := by decide +kernel
set_option maxRecDepth 1000000 in
theorem okP_295_1 : (List.range' 300 124).all (fun pc => ckD 295 pc) = true := by decide +kernel
set_option maxRecDepth 1000000 in
theorem okP_295_2 : (List.range' 424 95).all (fun pc => ckD 295 pc) = true := by decide +kernel
set_option maxRecDepth 1000000 in
theorem okP_295_3 : (List.range' 519 80).all (fun pc => ckD 295 pc) = true := by decide +kernel
