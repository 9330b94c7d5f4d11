/-! the data's checks: decode and code words -/
set_option maxRecDepth 1000000 in
theorem okC_345 : (Nat.beq 345 406 || ckK 345) = true := by decide +kernel
theorem okG_52 : (List.range' 345 1).all (fun k => (List.range (mLen k)).all (fun pc => ckD k pc) && (Nat.beq k 406 || ckK k)) = true := by
  refine okBig (fun pc hpc => ?_) okC_345
  have hpc : pc < 399 := hpc
  rcases Nat.lt_or_ge pc 300 with h | h
  · exact rg okP_345_0 (by omega) (by omega)
  exact rg okP_345_1 (by omega) (by omega)
set_option maxRecDepth 1000000 in
theorem okG_53 : (List.range' 346 7).all (fun k => (List.range (mLen k)).all (fun pc => ckD k pc) && (Nat.beq k 406 || ckK k)) = true := by decide +kernel
set_option maxRecDepth 1000000 in
theorem okG_54 : (List.range' 353 5).all (fun k => (List.range (mLen k)).all (fun pc => ckD k pc) && (Nat.beq k 406 || ckK k)) = true := by decide +kernel
