/-! the data's checks: decode and code words -/
set_option maxRecDepth 1000000 in
theorem okC_341 : (Nat.beq 341 406 || ckK 341) = true := by decide +kernel
theorem okG_48 : (List.range' 341 1).all (fun k => (List.range (mLen k)).all (fun pc => ckD k pc) && (Nat.beq k 406 || ckK k)) = true := by
  refine okBig (fun pc hpc => ?_) okC_341
  have hpc : pc < 403 := hpc
  rcases Nat.lt_or_ge pc 300 with h | h
  · exact rg okP_341_0 (by omega) (by omega)
  exact rg okP_341_1 (by omega) (by omega)
set_option maxRecDepth 1000000 in
theorem okG_49 : (List.range' 342 1).all (fun k => (List.range (mLen k)).all (fun pc => ckD k pc) && (Nat.beq k 406 || ckK k)) = true := by decide +kernel
set_option maxRecDepth 1000000 in
theorem okG_50 : (List.range' 343 1).all (fun k => (List.range (mLen k)).all (fun pc => ckD k pc) && (Nat.beq k 406 || ckK k)) = true := by decide +kernel
set_option maxRecDepth 1000000 in
theorem okG_51 : (List.range' 344 1).all (fun k => (List.range (mLen k)).all (fun pc => ckD k pc) && (Nat.beq k 406 || ckK k)) = true := by decide +kernel
set_option maxRecDepth 1000000 in
theorem okP_345_0 : (List.range' 0 300).all (fun pc => ckD 345 pc) = true := by decide +kernel
set_option maxRecDepth 1000000 in
theorem okP_345_1 : (List.range' 300 99).all (fun pc => ckD 345 pc) = true := by decide +kernel
