/-! the data's checks: decode and code words -/
set_option maxRecDepth 1000000 in
theorem okP_298_0 : (List.range' 0 300).all (fun pc => ckD 298 pc) = true := by decide +kernel
set_option maxRecDepth 1000000 in
theorem okP_298_1 : (List.range' 300 124).all (fun pc => ckD 298 pc) = true := by decide +kernel
set_option maxRecDepth 1000000 in
theorem okP_298_2 : (List.range' 424 95).all (fun pc => ckD 298 pc) = true := by decide +kernel
set_option maxRecDepth 1000000 in
theorem okP_298_3 : (List.range' 519 80).all (fun pc => ckD 298 pc) = true := by decide +kernel
