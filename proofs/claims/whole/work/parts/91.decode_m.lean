/-! the data's checks: decode and code words -/
set_option maxRecDepth 1000000 in
theorem okP_400_2 : (List.range' 424 95).all (fun pc => ckD 400 pc) = true := by decide +kernel
set_option maxRecDepth 1000000 in
theorem okP_400_3 : (List.range' 519 1).all (fun pc => ckD 400 pc) = true := by decide +kernel
set_option maxRecDepth 1000000 in
theorem okC_400 : (Nat.beq 400 406 || ckK 400) = true := by decide +kernel
theorem okG_66 : (List.range' 400 1).all (fun k => (List.range (mLen k)).all (fun pc => ckD k pc) && (Nat.beq k 406 || ckK k)) = true := by
  refine okBig (fun pc hpc => ?_) okC_400
  have hpc : pc < 520 := hpc
  rcases Nat.lt_or_ge pc 300 with h | h
  · exact rg okP_400_0 (by omega) (by omega)
  rcases Nat.lt_or_ge pc 424 with h | h
  · exact rg okP_400_1 (by omega) (by omega)
  rcases Nat.lt_or_ge pc 519 with h | h
  · exact rg okP_400_2 (by omega) (by omega)
  exact rg okP_400_3 (by omega) (by omega)
set_option maxRecDepth 1000000 in
theorem okG_67 : (List.range' 401 5).all (fun k => (List.range (mLen k)).all (fun pc => ckD k pc) && (Nat.beq k 406 || ckK k)) = true := by decide +kernel
set_option maxRecDepth 1000000 in
theorem okP_406_0 : (List.range' 0 300).all (fun pc => ckD 406 pc) = true := by decide +kernel
