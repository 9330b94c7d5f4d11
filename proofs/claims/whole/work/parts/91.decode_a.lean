/-! the data's checks: decode and code words -/
set_option maxRecDepth 1000000 in
theorem okP_298_4 : (List.range' 599 70).all (fun pc => ckD 298 pc) = true := by decide +kernel
set_option maxRecDepth 1000000 in
theorem okP_298_5 : (List.range' 669 16).all (fun pc => ckD 298 pc) = true := by decide +kernel
set_option maxRecDepth 1000000 in
theorem okC_298 : (Nat.beq 298 406 || ckK 298) = true := by decide +kernel
theorem okG_37 : (List.range' 298 1).all (fun k => (List.range (mLen k)).all (fun pc => ckD k pc) && (Nat.beq k 406 || ckK k)) = true := by
  refine okBig (fun pc hpc => ?_) okC_298
  have hpc : pc < 685 := hpc
  rcases Nat.lt_or_ge pc 300 with h | h
  · exact rg okP_298_0 (by omega) (by omega)
  rcases Nat.lt_or_ge pc 424 with h | h
  · exact rg okP_298_1 (by omega) (by omega)
  rcases Nat.lt_or_ge pc 519 with h | h
  · exact rg okP_298_2 (by omega) (by omega)
  rcases Nat.lt_or_ge pc 599 with h | h
  · exact rg okP_298_3 (by omega) (by omega)
  rcases Nat.lt_or_ge pc 669 with h | h
  · exact rg okP_298_4 (by omega) (by omega)
  exact rg okP_298_5 (by omega) (by omega)
set_option maxRecDepth 1000000 in
theorem okG_38 : (List.range' 299 9).all (fun k => (List.range (mLen k)).all (fun pc => ckD k pc) && (Nat.beq k 406 || ckK k)) = true := by decide +kernel
