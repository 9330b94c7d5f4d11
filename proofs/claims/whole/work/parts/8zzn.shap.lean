/-! The shape of a code, as the class reckons it: every code by the kernel -/
def wdS (c : Nat) : Int32 := tabS c >>> ((16 : Int32) &&& 31)
def fsF : Nat → Nat → Int32 → Int32
  | 0, _, _ => -1
  | f + 1, c, w => if wdS c = w then nI c else (match c with
    | 0 => fsF f 1 w
    | c' + 1 => fsF f (c' + 2) w)
theorem fsF_s (f c : Nat) (w : Int32) : fsF (f + 1) c w = if wdS c = w then nI c else fsF f (c + 1) w := by
  cases c <;> rfl
noncomputable def shC (c : Nat) : Bool := (match pRun 300 166 0 [(0, .int (nI (c / 256))), (1, .int (nI (c % 256)))] [] with
  | some (some (.int x)) => decide (x = tabS c)
  | _ => false) && (decide (nI c >>> ((8 : Int32) &&& 31) = nI (c / 256)) && decide (nI c &&& 255 = nI (c % 256)))
def nxC (c : Nat) : Bool := if 0 ≤ wdS c ∧ wdS c < 107 then decide (tabX c = fsF (1791 - c) (c + 1) (wdS c)) else decide (tabX c = -1)
theorem rg_all {P : Nat → Bool} {n i : Nat} (h : (List.range n).all P = true) (hi : i < n) : P i = true := List.all_eq_true.mp h i (List.mem_range.mpr hi)
