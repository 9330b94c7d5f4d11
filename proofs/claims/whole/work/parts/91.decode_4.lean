/-! the data's checks: decode and code words -/
set_option maxRecDepth 1000000 in
theorem okG_24 : (List.range' 219 16).all (fun k => (List.range (mLen k)).all (fun pc => ckD k pc) && (Nat.beq k 406 || ckK k)) = true := by decide +kernel
set_option maxRecDepth 1000000 in
theorem okG_25 : (List.range' 235 17).all (fun k => (List.range (mLen k)).all (fun pc => ckD k pc) && (Nat.beq k 406 || ckK k)) = true := by decide +kernel
set_option maxRecDepth 1000000 in
theorem okG_26 : (List.range' 252 4).all (fun k => (List.range (mLen k)).all (fun pc => ckD k pc) && (Nat.beq k 406 || ckK k)) = true := by decide +kernel
set_option maxRecDepth 1000000 in
theorem okG_27 : (List.range' 256 8).all (fun k => (List.range (mLen k)).all (fun pc => ckD k pc) && (Nat.beq k 406 || ckK k)) = true := by decide +kernel
set_option maxRecDepth 1000000 in
theorem okG_28 : (List.range' 264 2).all (fun k => (List.range (mLen k)).all (fun pc => ckD k pc) && (Nat.beq k 406 || ckK k)) = true := by decide +kernel
set_option maxRecDepth 1000000 in
theorem okG_29 : (List.range' 266 4).all (fun k => (List.range (mLen k)).all (fun pc => ckD k pc) && (Nat.beq k 406 || ckK k)) = true := by decide +kernel
