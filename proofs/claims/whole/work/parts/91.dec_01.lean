/-! the data's checks: decode and code words -/
set_option maxRecDepth 1000000 in
theorem okG_6 : (List.range' 108 18).all (fun k => ckG k) = true := by decide +kernel
set_option maxRecDepth 1000000 in
theorem okG_7 : (List.range' 126 27).all (fun k => ckG k) = true := by decide +kernel
set_option maxRecDepth 1000000 in
theorem okG_8 : (List.range' 153 20).all (fun k => ckG k) = true := by decide +kernel
set_option maxRecDepth 1000000 in
theorem okG_9 : (List.range' 173 26).all (fun k => ckG k) = true := by decide +kernel
set_option maxRecDepth 1000000 in
theorem okG_10 : (List.range' 199 30).all (fun k => ckG k) = true := by decide +kernel
set_option maxRecDepth 1000000 in
theorem okG_11 : (List.range' 229 26).all (fun k => ckG k) = true := by decide +kernel
