/-! Shapes of codes, a quarter of them -/
set_option maxRecDepth 100000 in
theorem shC_21 : (List.range 64).all (fun c => shC (c + 1344)) = true := by decide +kernel
set_option maxRecDepth 100000 in
theorem shC_22 : (List.range 64).all (fun c => shC (c + 1408)) = true := by decide +kernel
set_option maxRecDepth 100000 in
theorem shC_23 : (List.range 64).all (fun c => shC (c + 1472)) = true := by decide +kernel
set_option maxRecDepth 100000 in
theorem shC_24 : (List.range 64).all (fun c => shC (c + 1536)) = true := by decide +kernel
set_option maxRecDepth 100000 in
theorem shC_25 : (List.range 64).all (fun c => shC (c + 1600)) = true := by decide +kernel
set_option maxRecDepth 100000 in
theorem shC_26 : (List.range 64).all (fun c => shC (c + 1664)) = true := by decide +kernel
set_option maxRecDepth 100000 in
theorem shC_27 : (List.range 64).all (fun c => shC (c + 1728)) = true := by decide +kernel
