/-! The class's sizes -/
def lenI (x : Int32) : Int32 := if x = 32 then 1 else if x = 33 then 1 else if x = 36 then 1 else if x = 37 then 2 else if x = 38 then 1 else if x = 42 then 1 else if x = 43 then 2 else 0
theorem len_e (x : Int32) (c : vmD) (Q : Int32 → vmD → Prop) : Shapes_lengthOf x c Q = Q (lenI x) c := by
  simp only [Shapes_lengthOf, lenI, Qite]
def leadI (x : Int32) : Int32 := if (x >>> ((8 : Int32) &&& 31)) = 0 then 1 else if (x >>> ((8 : Int32) &&& 31)) < 5 then 2 else 3
/-- an instruction's size, at its code -/
def szI (x : Nat) : Int32 := leadI (nI x) + lenI (shI (tabS x) 0) + lenI (shI (tabS x) 1)
theorem size_e {c : vmD} (hC : CC c) {x : Nat} (hx : x < 1792) (h0 : ¬ tabS x < 0) (Q : Int32 → vmD → Prop) : Shapes_size (nI x) c Q = Q (szI x) c := by
  have e : ∀ y : Int32, Shapes_size_24 (nI x) y c Q = Q (y + lenI (shI (tabS x) 0) + lenI (shI (tabS x) 1)) c := by
    intro y
    unfold Shapes_size_24
    rw [(kindSC hC hx h0 _).1, len_e, (kindSC hC hx h0 _).2, len_e]
  unfold Shapes_size szI leadI
  by_cases z : (nI x >>> ((8 : Int32) &&& 31)) = 0
  · rw [if_pos z, if_pos z, e]
  · rw [if_neg z, if_neg z]
    by_cases z2 : (nI x >>> ((8 : Int32) &&& 31)) < 5
    · rw [if_pos z2, if_pos z2, e]
    · rw [if_neg z2, if_neg z2, e]
