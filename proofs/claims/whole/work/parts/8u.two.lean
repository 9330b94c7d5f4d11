/-! The tables against each other: two operands -/
def en2 (w k0 k1 : Nat) : Int32 × (Nat → Int32) := MO_encode_v (wId w) (nI (rkT k0)) (nI (rwT k0)) (kbr k0) (nI (rkT k1)) (nI (rwT k1)) tm0 2
theorem tab2a : ∀ w, w < 50 → (!(isI w) || (decide (w = 36) || Nat.all 36 (fun k0 _ => decide (k0 = 0) || Nat.all 36 (fun k1 _ => decide (k1 = 0) || ((fnT w (adjK w k0) (adjK w k1)).isNone == decide ((en2 w k0 k1).1 = 0)))))) = true := by decide +kernel
