/-! the data's checks: decode and code words -/
set_option maxRecDepth 1000000 in
theorem okG_0 : (List.range' 0 20).all (fun k => ckG k) = true := by decide +kernel
set_option maxRecDepth 1000000 in
theorem okG_1 : (List.range' 20 21).all (fun k => ckG k) = true := by decide +kernel
set_option maxRecDepth 1000000 in
theorem okG_2 : (List.range' 41 15).all (fun k => ckG k) = true := by decide +kernel
set_option maxRecDepth 1000000 in
theorem okG_3 : (List.range' 56 26).all (fun k => ckG k) = true := by decide +kernel
set_option maxRecDepth 1000000 in
theorem okG_4 : (List.range' 82 10).all (fun k => ckG k) = true := by decide +kernel
set_option maxRecDepth 1000000 in
theorem okG_5 : (List.range' 92 16).all (fun k => ckG k) = true := by decide +kernel
