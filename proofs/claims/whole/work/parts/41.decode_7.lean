/-! the data's checks: decode and code words -/
set_option maxRecDepth 1000000 in
theorem okG_42 : (List.range' 315 8).all (fun k => (List.range (mLen k)).all (fun pc => ckD k pc) && (Nat.beq k 406 || ckK k)) = true := by decide +kernel
set_option maxRecDepth 1000000 in
theorem okG_43 : (List.range' 323 4).all (fun k => (List.range (mLen k)).all (fun pc => ckD k pc) && (Nat.beq k 406 || ckK k)) = true := by decide +kernel
set_option maxRecDepth 1000000 in
theorem okG_44 : (List.range' 327 8).all (fun k => (List.range (mLen k)).all (fun pc => ckD k pc) && (Nat.beq k 406 || ckK k)) = true := by decide +kernel
set_option maxRecDepth 1000000 in
theorem okG_45 : (List.range' 335 7).all (fun k => (List.range (mLen k)).all (fun pc => ckD k pc) && (Nat.beq k 406 || ckK k)) = true := by decide +kernel
set_option maxRecDepth 1000000 in
theorem okG_46 : (List.range' 342 3).all (fun k => (List.range (mLen k)).all (fun pc => ckD k pc) && (Nat.beq k 406 || ckK k)) = true := by decide +kernel
set_option maxRecDepth 1000000 in
theorem okG_47 : (List.range' 345 2).all (fun k => (List.range (mLen k)).all (fun pc => ckD k pc) && (Nat.beq k 406 || ckK k)) = true := by decide +kernel
