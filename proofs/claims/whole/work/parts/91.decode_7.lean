/-! the data's checks: decode and code words -/
set_option maxRecDepth 1000000 in
theorem okP_295_4 : (List.range' 599 51).all (fun pc => ckD 295 pc) = true := by decide +kernel
set_option maxRecDepth 1000000 in
theorem okC_295 : (Nat.beq 295 406 || ckK 295) = true := by decide +kernel
theorem okG_34 : (List.range' 295 1).all (fun k => (List.range (mLen k)).all (fun pc => ckD k pc) && (Nat.beq k 406 || ckK k)) = true := by
  refine okBig (fun pc hpc => ?_) okC_295
  have hpc : pc < 650 := hpc
  rcases Nat.lt_or_ge pc 300 with h | h
  · exact rg okP_295_0 (by omega) (by omega)
  rcases Nat.lt_or_ge pc 424 with h | h
  · exact rg okP_295_1 (by omega) (by omega)
  rcases Nat.lt_or_ge pc 519 with h | h
  · exact rg okP_295_2 (by omega) (by omega)
  rcases Nat.lt_or_ge pc 599 with h | h
  · exact rg okP_295_3 (by omega) (by omega)
  exact rg okP_295_4 (by omega) (by omega)
set_option maxRecDepth 1000000 in
theorem okP_296_0 : (List.range' 0 300).all (fun pc => ckD 296 pc) = true := by decide +kernel
set_option maxRecDepth 1000000 in
theorem okP_296_1 : (List.range' 300 124).all (fun pc => ckD 296 pc) = true := by decide +kernel
