/-! A code's shape against what the reference encodes -/
def bkI (s : Int32) : Int32 := if s = 36 ∨ s = 42 then 1 else if s = 37 ∨ s = 43 then 2 else if s = 38 then 3 else 0
def pkI (s : Int32) : Int32 := if s = 39 then 1 else if s = 40 then 2 else if s = 41 then 3 else 0
def mvI (s0 s1 : Int32) : Int32 := if s0 = 32 ∨ s0 = 33 then 0 else if s1 = 32 ∨ s1 = 33 then 1 else -1
def frG (g : Nat) : Int32 := if g = 3 ∨ g = 5 then 221 else if g = 4 ∨ g = 6 then 253 else 0
def mdG (g : Nat) : Int32 := if g = 1 ∨ g = 5 ∨ g = 6 then 203 else if g = 2 then 237 else 0
def shF (x i : Nat) : Int32 := shI (tabS x) i
/-- what the reference leaves, at the code x -/
def agB (x : Nat) (m : Nat → Int32) : Bool := decide (m 29 = frG (x / 256)) && decide (m 30 = mdG (x / 256)) && decide (m 31 = nI (x % 256)) && decide (m 36 = mvI (shF x 0) (shF x 1)) && decide (m 32 = bkI (shF x 0) + bkI (shF x 1)) && decide (m 34 = pkI (shF x 0)) && (decide (m 34 = 0) || (decide (m 35 = 0) && decide (x % 256 / 8 % 8 = 0)))
/-- what holds of the code itself: of its shape -/
def agX (x : Nat) : Bool := decide (x < 1792) && (decide (bkI (shF x 0) = 0) || decide (bkI (shF x 1) = 0)) && decide (pkI (shF x 1) = 0) && (decide (pkI (shF x 0) = 0) || decide (bkI (shF x 1) = 0)) && (decide (mvI 0 (shF x 1) = -1) || (decide (bkI (shF x 0) = 0) && decide (mvI (shF x 0) 0 = -1)))
/-- and of its group -/
def agG (x : Nat) : Bool := bif Nat.blt 4 (x / 256) then (decide (x / 256 < 7) && decide (mvI (shF x 0) (shF x 1) = (if shF x 0 = 39 then 1 else 0)) && decide (bkI (shF x 0) + bkI (shF x 1) = 0)) else (decide (x / 256 = 3) || decide (x / 256 = 4) || decide (mvI (shF x 0) (shF x 1) = -1))
def agA (o : Option (Nat × Nat × Nat)) (z : Int32 × (Nat → Int32)) : Bool := match o with
  | none => decide (z.1 = 0)
  | some t => decide (z.1 = 1) && agB t.2.2 z.2
theorem agT : ∀ w, w < 107 → (fT w).all (fun t => agX t.2.2 && agG t.2.2) = true := by decide +kernel
theorem tab0 : ∀ w, w < 107 → (!(isI w) || agA (fnT w 0 0) (en0 w)) = true := by decide +kernel
theorem tab1 : ∀ w, w < 107 → (!(isI w) || Nat.all 36 (fun k0 _ => decide (k0 = 0) || agA (fnT w (adjK w k0) 0) (en1 w k0))) = true := by decide +kernel
