/-! the data's checks: decode and code words -/
set_option maxRecDepth 1000000 in
theorem okG_45 : (List.range' 323 4).all (fun k => (List.range (mLen k)).all (fun pc => ckD k pc) && (Nat.beq k 406 || ckK k)) = true := by decide +kernel
set_option maxRecDepth 1000000 in
theorem okP_327_0 : (List.range' 0 300).all (fun pc => ckD 327 pc) = true := by decide +kernel
set_option maxRecDepth 1000000 in
theorem okP_327_1 : (List.range' 300 50).all (fun pc => ckD 327 pc) = true := by decide +kernel
set_option maxRecDepth 1000000 in
theorem okC_327 : (Nat.beq 327 406 || ckK 327) = true := by decide +kernel
theorem okG_46 : (List.range' 327 1).all (fun k => (List.range (mLen k)).all (fun pc => ckD k pc) && (Nat.beq k 406 || ckK k)) = true := by
  refine okBig (fun pc hpc => ?_) okC_327
  have hpc : pc < 350 := hpc
  rcases Nat.lt_or_ge pc 300 with h | h
  · exact rg okP_327_0 (by omega) (by omega)
  exact rg okP_327_1 (by omega) (by omega)
