/-! the data's checks: decode and code words -/
set_option maxRecDepth 1000000 in
theorem okG_57 : (List.range' 372 2).all (fun k => (List.range (mLen k)).all (fun pc => ckD k pc) && (Nat.beq k 406 || ckK k)) = true := by decide +kernel
set_option maxRecDepth 1000000 in
theorem okG_58 : (List.range' 374 10).all (fun k => (List.range (mLen k)).all (fun pc => ckD k pc) && (Nat.beq k 406 || ckK k)) = true := by decide +kernel
