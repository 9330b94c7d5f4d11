/-! The tables against each other: the data -/
def tm0 : Nat → Int32 := fun _ => 77777
def adjK (w k : Nat) : Nat := if w = 59 then k else if k = 30 then 32 else if k = 31 then 33 else k
def kbr (k : Nat) : Int32 := kb (decide (k = 30) || decide (k = 31))
def isI (w : Nat) : Bool := !(fT w).isEmpty
def en0 (w : Nat) : Int32 × (Nat → Int32) := MO_encode_v (wId w) 0 0 0 0 0 tm0 0
def en1 (w k0 : Nat) : Int32 × (Nat → Int32) := MO_encode_v (wId w) (nI (rkT k0)) (nI (rwT k0)) (kbr k0) 0 0 tm0 1
def en2 (w k0 k1 : Nat) : Int32 × (Nat → Int32) := MO_encode_v (wId w) (nI (rkT k0)) (nI (rwT k0)) (kbr k0) (nI (rkT k1)) (nI (rwT k1)) tm0 2
