/-! the data's checks: decode and code words -/
set_option maxRecDepth 1000000 in
theorem okP_406_1 : (List.range' 300 124).all (fun pc => ckD 406 pc) = true := by decide +kernel
set_option maxRecDepth 1000000 in
theorem okP_406_2 : (List.range' 424 95).all (fun pc => ckD 406 pc) = true := by decide +kernel
set_option maxRecDepth 1000000 in
theorem okP_406_3 : (List.range' 519 80).all (fun pc => ckD 406 pc) = true := by decide +kernel
set_option maxRecDepth 1000000 in
theorem okP_406_4 : (List.range' 599 56).all (fun pc => ckD 406 pc) = true := by decide +kernel
theorem okC_406 : (Nat.beq 406 406 || ckK 406) = true := by rw [show Nat.beq 406 406 = true from rfl, Bool.true_or]
theorem okG_68 : (List.range' 406 1).all (fun k => (List.range (mLen k)).all (fun pc => ckD k pc) && (Nat.beq k 406 || ckK k)) = true := by
  refine okBig (fun pc hpc => ?_) okC_406
  have hpc : pc < 655 := hpc
  rcases Nat.lt_or_ge pc 300 with h | h
  · exact rg okP_406_0 (by omega) (by omega)
  rcases Nat.lt_or_ge pc 424 with h | h
  · exact rg okP_406_1 (by omega) (by omega)
  rcases Nat.lt_or_ge pc 519 with h | h
  · exact rg okP_406_2 (by omega) (by omega)
  rcases Nat.lt_or_ge pc 599 with h | h
  · exact rg okP_406_3 (by omega) (by omega)
  exact rg okP_406_4 (by omega) (by omega)
