/-! the data's checks: decode and code words -/
set_option maxRecDepth 1000000 in
theorem okG_24 : (List.range' 397 9).all (fun k => ckG k) = true := by decide +kernel
set_option maxRecDepth 1000000 in
theorem okG_25 : (List.range' 406 1).all (fun k => ckG k) = true := by decide +kernel
