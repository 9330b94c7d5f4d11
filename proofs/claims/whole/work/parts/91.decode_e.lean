/-! the data's checks: decode and code words -/
set_option maxRecDepth 1000000 in
theorem okG_47 : (List.range' 328 13).all (fun k => (List.range (mLen k)).all (fun pc => ckD k pc) && (Nat.beq k 406 || ckK k)) = true := by decide +kernel
set_option maxRecDepth 1000000 in
theorem okP_341_0 : (List.range' 0 300).all (fun pc => ckD 341 pc) = true := by decide +kernel
set_option maxRecDepth 1000000 in
theorem okP_341_1 : (List.range' 300 103).all (fun pc => ckD 341 pc) = true := by decide +kernel
