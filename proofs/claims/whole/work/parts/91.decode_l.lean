/-! the data's checks: decode and code words -/
set_option maxRecDepth 1000000 in
theorem okG_65 : (List.range' 398 2).all (fun k => (List.range (mLen k)).all (fun pc => ckD k pc) && (Nat.beq k 406 || ckK k)) = true := by decide +kernel
set_option maxRecDepth 1000000 in
theorem okP_400_0 : (List.range' 0 300).all (fun pc => ckD 400 pc) = true := by decide +kernel
set_option maxRecDepth 1000000 in
theorem okP_400_1 : (List.range' 300 124).all (fun pc => ckD 400 pc) = true := by decide +kernel
