/-! The tables against each other: one operand, none -/
def tm0 : Nat → Int32 := fun _ => 77777
def adjK (w k : Nat) : Nat := if w = 59 then k else if k = 30 then 32 else if k = 31 then 33 else k
def kbr (k : Nat) : Int32 := kb (decide (k = 30) || decide (k = 31))
def isI (w : Nat) : Bool := !(fT w).isEmpty
def en0 (w : Nat) : Int32 × (Nat → Int32) := MO_encode_v (wId w) 0 0 0 0 0 tm0 0
def en1 (w k0 : Nat) : Int32 × (Nat → Int32) := MO_encode_v (wId w) (nI (rkT k0)) (nI (rwT k0)) (kbr k0) 0 0 tm0 1
theorem tab0 : ∀ w, w < 107 → (!(isI w) || ((fnT w 0 0).isNone == decide ((en0 w).1 = 0))) = true := by decide +kernel
theorem tab1 : ∀ w, w < 107 → (!(isI w) || Nat.all 36 (fun k0 _ => decide (k0 = 0) || ((fnT w (adjK w k0) 0).isNone == decide ((en1 w k0).1 = 0)))) = true := by decide +kernel
