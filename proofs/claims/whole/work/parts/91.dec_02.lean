/-! the data's checks: decode and code words -/
set_option maxRecDepth 1000000 in
theorem okG_12 : (List.range' 255 11).all (fun k => ckG k) = true := by decide +kernel
set_option maxRecDepth 1000000 in
theorem okG_13 : (List.range' 266 13).all (fun k => ckG k) = true := by decide +kernel
set_option maxRecDepth 1000000 in
theorem okG_14 : (List.range' 279 16).all (fun k => ckG k) = true := by decide +kernel
set_option maxRecDepth 1000000 in
theorem okG_15 : (List.range' 295 2).all (fun k => ckG k) = true := by decide +kernel
set_option maxRecDepth 1000000 in
theorem okG_16 : (List.range' 297 8).all (fun k => ckG k) = true := by decide +kernel
set_option maxRecDepth 1000000 in
theorem okG_17 : (List.range' 305 8).all (fun k => ckG k) = true := by decide +kernel
