/-! The shape of a code, as the class reckons it: every code by the kernel -/
noncomputable def shC (c : Nat) : Bool := match pRun 300 166 0 [(0, .int (nI (c / 256))), (1, .int (nI (c % 256)))] [] with
  | some (some (.int x)) => decide (x = tabS c)
  | _ => false
set_option maxRecDepth 100000 in
theorem shC_0 : (List.range 64).all (fun c => shC c) = true := by decide +kernel
