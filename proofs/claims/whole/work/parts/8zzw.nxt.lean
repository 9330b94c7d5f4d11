/-! The chains of codes of a word, as the class lays them -/
set_option maxRecDepth 100000 in
theorem nxC_0 : (List.range 1792).all (fun c => nxC c) = true := by decide +kernel
set_option maxRecDepth 100000 in
theorem fsC_0 : (List.range 107).all (fun w => decide (tabF w = fsF 1792 0 (nI w))) = true := by decide +kernel
