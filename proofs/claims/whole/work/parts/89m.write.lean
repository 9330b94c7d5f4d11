/-! write, whole -/
def tC (g k : Nat) : List Tt := tIns (wV (256 * g + k)) (fV (256 * g + k)) (eV (256 * g + k)) (nI k)
def tR (g k : Nat) : List Tt := if i3V g = 1 then T_write203 (nI k) (nI (ixV g)) else if i3V g = 2 then T_write237 (nI k) (nI (ixV g)) else if nI k >>> ((6 : Int32) &&& 31) = 0 then T_writeFirst (nI k) (nI (ixV g)) 0 else if nI k >>> ((6 : Int32) &&& 31) = 3 then T_writeLast (nI k) (nI (ixV g)) else if nI k = 118 then sayT 1212238932 else if nI k >>> ((6 : Int32) &&& 31) = 1 then sayT 4998176 ++ (T_octetName (nI k) (nI (ixV g)) ((nI k >>> ((3 : Int32) &&& 31)) &&& 7) ++ ([(44, 0)] ++ T_octetName (nI k) (nI (ixV g)) (nI k &&& 7))) else T_sumName (nI k) (nI (ixV g)) ((nI k >>> ((3 : Int32) &&& 31)) &&& 7) ++ T_octetName (nI k) (nI (ixV g)) (nI k &&& 7)
def wT (T : List Tt) : Nat := match T with
  | [] => 0
  | t :: T => (if t.2 = 0 then 1 else if t.2 < 4 then 5 else 6) + wT T
def tkB (g k : Nat) (t : Tt) : Bool := if t.2 = 0 then decide (t.1 = nI (t.1.toNatClampNeg % 256)) else if t.2 = 1 then (decide (nkV (256 * g + k) = 36) || decide (nkV (256 * g + k) = 42)) && !(decide (i3V g = 1)) else if t.2 = 2 then (decide (nkV (256 * g + k) = 37) || decide (nkV (256 * g + k) = 43)) && !(decide (i3V g = 1)) else if t.2 = 3 then decide (nkV (256 * g + k) = 38) && (decide (g = 0) && decide (zV g k = 2)) else nearV (256 * g + k)
def kdB (x : Int32) : Bool := decide (x = nI (x.toNatClampNeg % 44))
def ltB (n : Nat) (kd : Int32) : Bool := if kd = 39 ∨ kd = 40 ∨ kd = 41 then decide (nkV n = kd) else true
def allB (g k : Nat) : Bool := decide (tabS (256 * g + k) < 0) || (decide (tC g k = tR g k) && ((tC g k).all (tkB g k) && (decide (wT (tC g k) ≤ 28) && (kdB (fV (256 * g + k)) && (kdB (eV (256 * g + k)) && (decide (wV (256 * g + k) = nI ((wV (256 * g + k)).toNatClampNeg % 107)) && (ltB (256 * g + k) (fV (256 * g + k)) && ltB (256 * g + k) (eV (256 * g + k)))))))))
theorem all_0 : ∀ k, k < 256 → allB 0 k = true := by decide +kernel
theorem all_1 : ∀ k, k < 256 → allB 1 k = true := by decide +kernel
theorem all_2 : ∀ k, k < 256 → allB 2 k = true := by decide +kernel
theorem all_3 : ∀ k, k < 256 → allB 3 k = true := by decide +kernel
theorem all_4 : ∀ k, k < 256 → allB 4 k = true := by decide +kernel
theorem all_5 : ∀ k, k < 256 → allB 5 k = true := by decide +kernel
theorem all_6 : ∀ k, k < 256 → allB 6 k = true := by decide +kernel
