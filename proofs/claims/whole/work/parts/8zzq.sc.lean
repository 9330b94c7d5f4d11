/-! Shapes of codes, a quarter of them -/
set_option maxRecDepth 100000 in
theorem shC_14 : (List.range 64).all (fun c => shC (c + 896)) = true := by decide +kernel
set_option maxRecDepth 100000 in
theorem shC_15 : (List.range 64).all (fun c => shC (c + 960)) = true := by decide +kernel
set_option maxRecDepth 100000 in
theorem shC_16 : (List.range 64).all (fun c => shC (c + 1024)) = true := by decide +kernel
set_option maxRecDepth 100000 in
theorem shC_17 : (List.range 64).all (fun c => shC (c + 1088)) = true := by decide +kernel
set_option maxRecDepth 100000 in
theorem shC_18 : (List.range 64).all (fun c => shC (c + 1152)) = true := by decide +kernel
set_option maxRecDepth 100000 in
theorem shC_19 : (List.range 64).all (fun c => shC (c + 1216)) = true := by decide +kernel
set_option maxRecDepth 100000 in
theorem shC_20 : (List.range 64).all (fun c => shC (c + 1280)) = true := by decide +kernel
