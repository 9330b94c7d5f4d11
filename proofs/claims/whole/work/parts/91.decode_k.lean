/-! the data's checks: decode and code words -/
set_option maxRecDepth 1000000 in
theorem okG_62 : (List.range' 394 2).all (fun k => (List.range (mLen k)).all (fun pc => ckD k pc) && (Nat.beq k 406 || ckK k)) = true := by decide +kernel
set_option maxRecDepth 1000000 in
theorem okG_63 : (List.range' 396 1).all (fun k => (List.range (mLen k)).all (fun pc => ckD k pc) && (Nat.beq k 406 || ckK k)) = true := by decide +kernel
set_option maxRecDepth 1000000 in
theorem okP_397_0 : (List.range' 0 300).all (fun pc => ckD 397 pc) = true := by decide +kernel
set_option maxRecDepth 1000000 in
theorem okP_397_1 : (List.range' 300 17).all (fun pc => ckD 397 pc) = true := by decide +kernel
set_option maxRecDepth 1000000 in
theorem okC_397 : (Nat.beq 397 406 || ckK 397) = true := by decide +kernel
theorem okG_64 : (List.range' 397 1).all (fun k => (List.range (mLen k)).all (fun pc => ckD k pc) && (Nat.beq k 406 || ckK k)) = true := by
  refine okBig (fun pc hpc => ?_) okC_397
  have hpc : pc < 317 := hpc
  rcases Nat.lt_or_ge pc 300 with h | h
  · exact rg okP_397_0 (by omega) (by omega)
  exact rg okP_397_1 (by omega) (by omega)
