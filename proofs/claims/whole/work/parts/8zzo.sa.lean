/-! Shapes of codes, a quarter of them -/
set_option maxRecDepth 100000 in
theorem shC_0 : (List.range 64).all (fun c => shC (c + 0)) = true := by decide +kernel
set_option maxRecDepth 100000 in
theorem shC_1 : (List.range 64).all (fun c => shC (c + 64)) = true := by decide +kernel
set_option maxRecDepth 100000 in
theorem shC_2 : (List.range 64).all (fun c => shC (c + 128)) = true := by decide +kernel
set_option maxRecDepth 100000 in
theorem shC_3 : (List.range 64).all (fun c => shC (c + 192)) = true := by decide +kernel
set_option maxRecDepth 100000 in
theorem shC_4 : (List.range 64).all (fun c => shC (c + 256)) = true := by decide +kernel
set_option maxRecDepth 100000 in
theorem shC_5 : (List.range 64).all (fun c => shC (c + 320)) = true := by decide +kernel
set_option maxRecDepth 100000 in
theorem shC_6 : (List.range 64).all (fun c => shC (c + 384)) = true := by decide +kernel
