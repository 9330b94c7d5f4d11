/-! The tables against each other: two operands, the rest -/
theorem tab2c : ∀ w, w < 107 → (decide (w < 74) || (!(isI w) || Nat.all 36 (fun k0 _ => decide (k0 = 0) || Nat.all 36 (fun k1 _ => decide (k1 = 0) || agA (fnT w (adjK w k0) (adjK w k1)) (en2 w k0 k1))))) = true := by decide +kernel
