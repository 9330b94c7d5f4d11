/-! the data's checks: decode and code words -/
set_option maxRecDepth 1000000 in
theorem okP_358_0 : (List.range' 0 300).all (fun pc => ckD 358 pc) = true := by decide +kernel
set_option maxRecDepth 1000000 in
theorem okP_358_1 : (List.range' 300 12).all (fun pc => ckD 358 pc) = true := by decide +kernel
set_option maxRecDepth 1000000 in
theorem okC_358 : (Nat.beq 358 406 || ckK 358) = true := by decide +kernel
theorem okG_55 : (List.range' 358 1).all (fun k => (List.range (mLen k)).all (fun pc => ckD k pc) && (Nat.beq k 406 || ckK k)) = true := by
  refine okBig (fun pc hpc => ?_) okC_358
  have hpc : pc < 312 := hpc
  rcases Nat.lt_or_ge pc 300 with h | h
  · exact rg okP_358_0 (by omega) (by omega)
  exact rg okP_358_1 (by omega) (by omega)
set_option maxRecDepth 1000000 in
theorem okG_56 : (List.range' 359 13).all (fun k => (List.range (mLen k)).all (fun pc => ckD k pc) && (Nat.beq k 406 || ckK k)) = true := by decide +kernel
