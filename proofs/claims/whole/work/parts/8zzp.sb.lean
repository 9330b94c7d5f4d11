/-! Shapes of codes, a quarter of them -/
set_option maxRecDepth 100000 in
theorem shC_7 : (List.range 64).all (fun c => shC (c + 448)) = true := by decide +kernel
set_option maxRecDepth 100000 in
theorem shC_8 : (List.range 64).all (fun c => shC (c + 512)) = true := by decide +kernel
set_option maxRecDepth 100000 in
theorem shC_9 : (List.range 64).all (fun c => shC (c + 576)) = true := by decide +kernel
set_option maxRecDepth 100000 in
theorem shC_10 : (List.range 64).all (fun c => shC (c + 640)) = true := by decide +kernel
set_option maxRecDepth 100000 in
theorem shC_11 : (List.range 64).all (fun c => shC (c + 704)) = true := by decide +kernel
set_option maxRecDepth 100000 in
theorem shC_12 : (List.range 64).all (fun c => shC (c + 768)) = true := by decide +kernel
set_option maxRecDepth 100000 in
theorem shC_13 : (List.range 64).all (fun c => shC (c + 832)) = true := by decide +kernel
