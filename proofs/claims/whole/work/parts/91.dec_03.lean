/-! the data's checks: decode and code words -/
set_option maxRecDepth 1000000 in
theorem okG_18 : (List.range' 313 14).all (fun k => ckG k) = true := by decide +kernel
set_option maxRecDepth 1000000 in
theorem okG_19 : (List.range' 327 16).all (fun k => ckG k) = true := by decide +kernel
set_option maxRecDepth 1000000 in
theorem okG_20 : (List.range' 343 10).all (fun k => ckG k) = true := by decide +kernel
set_option maxRecDepth 1000000 in
theorem okG_21 : (List.range' 353 20).all (fun k => ckG k) = true := by decide +kernel
set_option maxRecDepth 1000000 in
theorem okG_22 : (List.range' 373 17).all (fun k => ckG k) = true := by decide +kernel
set_option maxRecDepth 1000000 in
theorem okG_23 : (List.range' 390 7).all (fun k => ckG k) = true := by decide +kernel
