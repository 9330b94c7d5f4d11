/-! the data's checks: decode and code words -/
set_option maxRecDepth 1000000 in
theorem okG_0 : (List.range' 0 13).all (fun k => (List.range (mLen k)).all (fun pc => ckD k pc) && (Nat.beq k 406 || ckK k)) = true := by decide +kernel
set_option maxRecDepth 1000000 in
theorem okG_1 : (List.range' 13 7).all (fun k => (List.range (mLen k)).all (fun pc => ckD k pc) && (Nat.beq k 406 || ckK k)) = true := by decide +kernel
set_option maxRecDepth 1000000 in
theorem okG_2 : (List.range' 20 12).all (fun k => (List.range (mLen k)).all (fun pc => ckD k pc) && (Nat.beq k 406 || ckK k)) = true := by decide +kernel
set_option maxRecDepth 1000000 in
theorem okG_3 : (List.range' 32 7).all (fun k => (List.range (mLen k)).all (fun pc => ckD k pc) && (Nat.beq k 406 || ckK k)) = true := by decide +kernel
set_option maxRecDepth 1000000 in
theorem okG_4 : (List.range' 39 7).all (fun k => (List.range (mLen k)).all (fun pc => ckD k pc) && (Nat.beq k 406 || ckK k)) = true := by decide +kernel
set_option maxRecDepth 1000000 in
theorem okG_5 : (List.range' 46 4).all (fun k => (List.range (mLen k)).all (fun pc => ckD k pc) && (Nat.beq k 406 || ckK k)) = true := by decide +kernel
