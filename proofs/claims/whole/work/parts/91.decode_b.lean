/-! the data's checks: decode and code words -/
set_option maxRecDepth 1000000 in
theorem okP_308_0 : (List.range' 0 300).all (fun pc => ckD 308 pc) = true := by decide +kernel
set_option maxRecDepth 1000000 in
theorem okP_308_1 : (List.range' 300 96).all (fun pc => ckD 308 pc) = true := by decide +kernel
set_option maxRecDepth 1000000 in
theorem okC_308 : (Nat.beq 308 406 || ckK 308) = true := by decide +kernel
theorem okG_39 : (List.range' 308 1).all (fun k => (List.range (mLen k)).all (fun pc => ckD k pc) && (Nat.beq k 406 || ckK k)) = true := by
  refine okBig (fun pc hpc => ?_) okC_308
  have hpc : pc < 396 := hpc
  rcases Nat.lt_or_ge pc 300 with h | h
  · exact rg okP_308_0 (by omega) (by omega)
  exact rg okP_308_1 (by omega) (by omega)
set_option maxRecDepth 1000000 in
theorem okG_40 : (List.range' 309 1).all (fun k => (List.range (mLen k)).all (fun pc => ckD k pc) && (Nat.beq k 406 || ckK k)) = true := by decide +kernel
set_option maxRecDepth 1000000 in
theorem okG_41 : (List.range' 310 2).all (fun k => (List.range (mLen k)).all (fun pc => ckD k pc) && (Nat.beq k 406 || ckK k)) = true := by decide +kernel
