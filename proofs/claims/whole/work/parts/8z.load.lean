/-! The tables against each other: LD -/
theorem tab2l : Nat.all 36 (fun k0 _ => decide (k0 = 0) || Nat.all 36 (fun k1 _ => decide (k1 = 0) || agA (fnT 36 (adjK 36 k0) (adjK 36 k1)) (en2 36 k0 k1))) = true := by decide +kernel
