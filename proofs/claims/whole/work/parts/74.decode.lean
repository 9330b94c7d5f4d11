/-! Reading what stands at an address, on both sides -/
set_option maxRecDepth 4000 in
def MO_plainLength_v (x1 : Int32) : Int32 :=
  let x2_1 := (x1 >>> ((3 : Int32) &&& 31)) &&& 7
  let x3_2 := x1 &&& 7
  let x4_3 := x2_1 &&& 1
  if (x1 >>> ((6 : Int32) &&& 31)) = 0 then
  (if x3_2 = 0 then
  (if x2_1 < 2 then
  (1)
  else
  (2))
  else
  (if x3_2 = 1 then
  (if x4_3 = 0 then
  (3)
  else
  (1))
  else
  (if x3_2 = 2 then
  (if (3 : Int32) < x2_1 then
  (3)
  else
  (1))
  else
  (if x3_2 = 6 then
  (2)
  else
  (1)))))
  else
  if (x1 >>> ((6 : Int32) &&& 31)) = 3 then
  (if x3_2 = 2 then
  (3)
  else
  (if x3_2 = 4 then
  (3)
  else
  (if x3_2 = 3 then
  (if x2_1 = 0 then
  (3)
  else
  (if x2_1 = 2 then
  (2)
  else
  (if x2_1 = 3 then
  (2)
  else
  (1))))
  else
  (if x3_2 = 5 then
  (if x2_1 = 1 then
  (3)
  else
  (1))
  else
  (if x3_2 = 6 then
  (2)
  else
  (1))))))
  else
  (1)
set_option maxRecDepth 4000 in
theorem MO_plainLength_e (x1 : Int32) (d : vmD) (Q : Int32 → vmD → Prop) : MO_plainLength x1 d Q = Q (MO_plainLength_v x1) d := by
  have hq : ∀ (p : Prop) [Decidable p] (a b : Int32), Q (if p then a else b) d = if p then Q a d else Q b d := by
    intro p _ a b
    split <;> rfl
  simp only [MO_plainLength, MO_plainLength_v, bnd_iff, hq]
set_option maxRecDepth 4000 in
def MO_isBehind237_v (x1 : Int32) : Int32 :=
  let x2_1 := (x1 >>> ((3 : Int32) &&& 31)) &&& 7
  let x3_2 := x1 &&& 7
  if (x1 >>> ((6 : Int32) &&& 31)) = 2 then
  (if (3 : Int32) < x2_1 then
  (if x3_2 < 4 then
  (1)
  else
  (0))
  else
  (0))
  else
  (if (x1 >>> ((6 : Int32) &&& 31)) = 1 then
  (if x3_2 = 0 then
  (if x2_1 = 6 then
  (0)
  else
  (1))
  else
  if x3_2 = 1 then
  (if x2_1 = 6 then
  (0)
  else
  (1))
  else
  if x3_2 = 2 then
  (1)
  else
  if x3_2 = 3 then
  (if (x2_1 >>> ((1 : Int32) &&& 31)) = 2 then
  (0)
  else
  (1))
  else
  if x3_2 = 4 then
  (if x2_1 = 0 then
  (1)
  else
  (0))
  else
  if x3_2 = 5 then
  (if x2_1 < 2 then
  (1)
  else
  (0))
  else
  if x3_2 = 6 then
  (if x2_1 = 0 then
  (1)
  else
  (if x2_1 = 2 then
  (1)
  else
  (if x2_1 = 3 then
  (1)
  else
  (0))))
  else
  (if x2_1 < 6 then
  (1)
  else
  (0)))
  else
  (0))
set_option maxRecDepth 4000 in
theorem MO_isBehind237_e (x1 : Int32) (d : vmD) (Q : Int32 → vmD → Prop) : MO_isBehind237 x1 d Q = Q (MO_isBehind237_v x1) d := by
  have hq : ∀ (p : Prop) [Decidable p] (a b : Int32), Q (if p then a else b) d = if p then Q a d else Q b d := by
    intro p _ a b
    split <;> rfl
  simp only [MO_isBehind237, MO_isBehind237_v, bnd_iff, hq]
set_option maxRecDepth 4000 in
def MO_signed_v (x1 : Int32) : Int32 :=
  if (127 : Int32) < x1 then
  ((x1 - 256))
  else
  (x1)
set_option maxRecDepth 4000 in
theorem MO_signed_e (x1 : Int32) (d : vmD) (Q : Int32 → vmD → Prop) : MO_signed x1 d Q = Q (MO_signed_v x1) d := by
  have hq : ∀ (p : Prop) [Decidable p] (a b : Int32), Q (if p then a else b) d = if p then Q a d else Q b d := by
    intro p _ a b
    split <;> rfl
  simp only [MO_signed, MO_signed_v, bnd_iff, hq]
set_option maxRecDepth 4000 in
def MO_hasPlace_54_v (x2 : Int32) (x3 : Int32) (x4 : Int32) : Int32 :=
  if x4 = 0 then
  (if x2 = 6 then
  (if (3 : Int32) < x3 then
  (if x3 < 7 then
  (1)
  else
  (0))
  else
  (0))
  else
  (0))
  else
  (0)
set_option maxRecDepth 4000 in
theorem MO_hasPlace_54_e (x2 : Int32) (x3 : Int32) (x4 : Int32) (d : vmD) (Q : Int32 → vmD → Prop) : MO_hasPlace_54 x2 x3 x4 d Q = Q (MO_hasPlace_54_v x2 x3 x4) d := by
  have hq : ∀ (p : Prop) [Decidable p] (a b : Int32), Q (if p then a else b) d = if p then Q a d else Q b d := by
    intro p _ a b
    split <;> rfl
  simp only [MO_hasPlace_54, MO_hasPlace_54_v, bnd_iff, hq]
set_option maxRecDepth 4000 in
def MO_hasPlace_42_v (x2 : Int32) (x3 : Int32) (x4 : Int32) : Int32 :=
  if x4 = 2 then
  (if x3 = 6 then
  (1)
  else
  (MO_hasPlace_54_v x2 x3 x4 ))
  else
  (MO_hasPlace_54_v x2 x3 x4 )
set_option maxRecDepth 4000 in
theorem MO_hasPlace_42_e (x2 : Int32) (x3 : Int32) (x4 : Int32) (d : vmD) (Q : Int32 → vmD → Prop) : MO_hasPlace_42 x2 x3 x4 d Q = Q (MO_hasPlace_42_v x2 x3 x4) d := by
  have hq : ∀ (p : Prop) [Decidable p] (a b : Int32), Q (if p then a else b) d = if p then Q a d else Q b d := by
    intro p _ a b
    split <;> rfl
  simp only [MO_hasPlace_42, MO_hasPlace_42_v, bnd_iff, hq, MO_hasPlace_54_e]
set_option maxRecDepth 4000 in
def MO_hasPlace_36_v (x1 : Int32) (x2 : Int32) (x3 : Int32) (x4 : Int32) : Int32 :=
  if x1 = 118 then
  (MO_hasPlace_42_v x2 x3 x4 )
  else
  (1)
set_option maxRecDepth 4000 in
theorem MO_hasPlace_36_e (x1 : Int32) (x2 : Int32) (x3 : Int32) (x4 : Int32) (d : vmD) (Q : Int32 → vmD → Prop) : MO_hasPlace_36 x1 x2 x3 x4 d Q = Q (MO_hasPlace_36_v x1 x2 x3 x4) d := by
  have hq : ∀ (p : Prop) [Decidable p] (a b : Int32), Q (if p then a else b) d = if p then Q a d else Q b d := by
    intro p _ a b
    split <;> rfl
  simp only [MO_hasPlace_36, MO_hasPlace_36_v, bnd_iff, hq, MO_hasPlace_42_e]
set_option maxRecDepth 4000 in
def MO_hasPlace_v (x1 : Int32) : Int32 :=
  let x2_1 := (x1 >>> ((3 : Int32) &&& 31)) &&& 7
  let x3_2 := x1 &&& 7
  let x4_3 := x1 >>> ((6 : Int32) &&& 31)
  if x4_3 = 1 then
  (if x2_1 = 6 then
  (MO_hasPlace_36_v x1 x2_1 x3_2 x4_3 )
  else
  (if x3_2 = 6 then
  (MO_hasPlace_36_v x1 x2_1 x3_2 x4_3 )
  else
  (MO_hasPlace_42_v x2_1 x3_2 x4_3 )))
  else
  (MO_hasPlace_42_v x2_1 x3_2 x4_3 )
set_option maxRecDepth 4000 in
theorem MO_hasPlace_e (x1 : Int32) (d : vmD) (Q : Int32 → vmD → Prop) : MO_hasPlace x1 d Q = Q (MO_hasPlace_v x1) d := by
  have hq : ∀ (p : Prop) [Decidable p] (a b : Int32), Q (if p then a else b) d = if p then Q a d else Q b d := by
    intro p _ a b
    split <;> rfl
  simp only [MO_hasPlace, MO_hasPlace_v, bnd_iff, hq, MO_hasPlace_36_e, MO_hasPlace_42_e]
set_option maxRecDepth 4000 in
def MO_hasHL_51_v (x2 : Int32) (x3 : Int32) : Int32 :=
  if x3 = 3 then
  (if x2 = 4 then
  (1)
  else
  (if x2 = 5 then
  (1)
  else
  (0)))
  else
  (0)
set_option maxRecDepth 4000 in
theorem MO_hasHL_51_e (x2 : Int32) (x3 : Int32) (d : vmD) (Q : Int32 → vmD → Prop) : MO_hasHL_51 x2 x3 d Q = Q (MO_hasHL_51_v x2 x3) d := by
  have hq : ∀ (p : Prop) [Decidable p] (a b : Int32), Q (if p then a else b) d = if p then Q a d else Q b d := by
    intro p _ a b
    split <;> rfl
  simp only [MO_hasHL_51, MO_hasHL_51_v, bnd_iff, hq]
set_option maxRecDepth 4000 in
def MO_hasHL_36_v (x2 : Int32) (x3 : Int32) : Int32 :=
  if x3 = 2 then
  (if x2 = 4 then
  (1)
  else
  (if x2 = 5 then
  (1)
  else
  (MO_hasHL_51_v x2 x3 )))
  else
  (MO_hasHL_51_v x2 x3 )
set_option maxRecDepth 4000 in
theorem MO_hasHL_36_e (x2 : Int32) (x3 : Int32) (d : vmD) (Q : Int32 → vmD → Prop) : MO_hasHL_36 x2 x3 d Q = Q (MO_hasHL_36_v x2 x3) d := by
  have hq : ∀ (p : Prop) [Decidable p] (a b : Int32), Q (if p then a else b) d = if p then Q a d else Q b d := by
    intro p _ a b
    split <;> rfl
  simp only [MO_hasHL_36, MO_hasHL_36_v, bnd_iff, hq, MO_hasHL_51_e]
set_option maxRecDepth 4000 in
def MO_hasHL_111_v (x2 : Int32) (x3 : Int32) : Int32 :=
  if x3 = 5 then
  (if x2 = 4 then
  (1)
  else
  (0))
  else
  (0)
set_option maxRecDepth 4000 in
theorem MO_hasHL_111_e (x2 : Int32) (x3 : Int32) (d : vmD) (Q : Int32 → vmD → Prop) : MO_hasHL_111 x2 x3 d Q = Q (MO_hasHL_111_v x2 x3) d := by
  have hq : ∀ (p : Prop) [Decidable p] (a b : Int32), Q (if p then a else b) d = if p then Q a d else Q b d := by
    intro p _ a b
    split <;> rfl
  simp only [MO_hasHL_111, MO_hasHL_111_v, bnd_iff, hq]
set_option maxRecDepth 4000 in
def MO_hasHL_101_v (x2 : Int32) (x3 : Int32) : Int32 :=
  if x3 = 3 then
  (if x2 = 4 then
  (1)
  else
  (MO_hasHL_111_v x2 x3 ))
  else
  (MO_hasHL_111_v x2 x3 )
set_option maxRecDepth 4000 in
theorem MO_hasHL_101_e (x2 : Int32) (x3 : Int32) (d : vmD) (Q : Int32 → vmD → Prop) : MO_hasHL_101 x2 x3 d Q = Q (MO_hasHL_101_v x2 x3) d := by
  have hq : ∀ (p : Prop) [Decidable p] (a b : Int32), Q (if p then a else b) d = if p then Q a d else Q b d := by
    intro p _ a b
    split <;> rfl
  simp only [MO_hasHL_101, MO_hasHL_101_v, bnd_iff, hq, MO_hasHL_111_e]
set_option maxRecDepth 4000 in
def MO_hasHL_v (x1 : Int32) : Int32 :=
  let x2_1 := (x1 >>> ((3 : Int32) &&& 31)) &&& 7
  let x3_2 := x1 &&& 7
  if (x1 >>> ((6 : Int32) &&& 31)) = 0 then
  (if x3_2 = 1 then
  (if x2_1 = 4 then
  (1)
  else
  (if (x2_1 &&& 1) = 1 then
  (1)
  else
  (MO_hasHL_36_v x2_1 x3_2 )))
  else
  (MO_hasHL_36_v x2_1 x3_2 ))
  else
  (if (x1 >>> ((6 : Int32) &&& 31)) = 3 then
  (if x3_2 = 1 then
  (if x2_1 = 4 then
  (1)
  else
  (if x2_1 = 5 then
  (1)
  else
  (if x2_1 = 7 then
  (1)
  else
  (MO_hasHL_101_v x2_1 x3_2 ))))
  else
  (MO_hasHL_101_v x2_1 x3_2 ))
  else
  (0))
set_option maxRecDepth 4000 in
theorem MO_hasHL_e (x1 : Int32) (d : vmD) (Q : Int32 → vmD → Prop) : MO_hasHL x1 d Q = Q (MO_hasHL_v x1) d := by
  have hq : ∀ (p : Prop) [Decidable p] (a b : Int32), Q (if p then a else b) d = if p then Q a d else Q b d := by
    intro p _ a b
    split <;> rfl
  simp only [MO_hasHL, MO_hasHL_v, bnd_iff, hq, MO_hasHL_36_e, MO_hasHL_101_e]
set_option maxRecDepth 4000 in
def Instruction_groupOf_v (x0 : Int32) : Int32 :=
  if x0 = 203 then
  (1)
  else
  if x0 = 221 then
  (3)
  else
  if x0 = 237 then
  (2)
  else
  if x0 = 253 then
  (4)
  else
  (0)
set_option maxRecDepth 4000 in
theorem Instruction_groupOf_e (x0 : Int32) (d : vmD) (Q : Int32 → vmD → Prop) : Instruction_groupOf x0 d Q = Q (Instruction_groupOf_v x0) d := by
  have hq : ∀ (p : Prop) [Decidable p] (a b : Int32), Q (if p then a else b) d = if p then Q a d else Q b d := by
    intro p _ a b
    split <;> rfl
  simp only [Instruction_groupOf, Instruction_groupOf_v, bnd_iff, hq]
set_option maxRecDepth 4000 in
def Instruction_isNear_v (x0 : Int32) : Int32 :=
  if x0 = 32 then
  (1)
  else
  (if x0 = 33 then
  (1)
  else
  (0))
set_option maxRecDepth 4000 in
theorem Instruction_isNear_e (x0 : Int32) (d : vmD) (Q : Int32 → vmD → Prop) : Instruction_isNear x0 d Q = Q (Instruction_isNear_v x0) d := by
  have hq : ∀ (p : Prop) [Decidable p] (a b : Int32), Q (if p then a else b) d = if p then Q a d else Q b d := by
    intro p _ a b
    split <;> rfl
  simp only [Instruction_isNear, Instruction_isNear_v, bnd_iff, hq]
set_option maxRecDepth 4000 in
def Instruction_isNumber_v (x0 : Int32) : Int32 :=
  if x0 < 36 then
  (0)
  else
  (if (43 : Int32) < x0 then
  (0)
  else
  (1))
set_option maxRecDepth 4000 in
theorem Instruction_isNumber_e (x0 : Int32) (d : vmD) (Q : Int32 → vmD → Prop) : Instruction_isNumber x0 d Q = Q (Instruction_isNumber_v x0) d := by
  have hq : ∀ (p : Prop) [Decidable p] (a b : Int32), Q (if p then a else b) d = if p then Q a d else Q b d := by
    intro p _ a b
    split <;> rfl
  simp only [Instruction_isNumber, Instruction_isNumber_v, bnd_iff, hq]
set_option maxRecDepth 4000 in
def Shapes_lengthOf_v (x0 : Int32) : Int32 :=
  if x0 = 32 then
  (1)
  else
  if x0 = 33 then
  (1)
  else
  if x0 = 36 then
  (1)
  else
  if x0 = 37 then
  (2)
  else
  if x0 = 38 then
  (1)
  else
  if x0 = 42 then
  (1)
  else
  if x0 = 43 then
  (2)
  else
  (0)
set_option maxRecDepth 4000 in
theorem Shapes_lengthOf_e (x0 : Int32) (d : vmD) (Q : Int32 → vmD → Prop) : Shapes_lengthOf x0 d Q = Q (Shapes_lengthOf_v x0) d := by
  have hq : ∀ (p : Prop) [Decidable p] (a b : Int32), Q (if p then a else b) d = if p then Q a d else Q b d := by
    intro p _ a b
    split <;> rfl
  simp only [Shapes_lengthOf, Shapes_lengthOf_v, bnd_iff, hq]
def dS (r : vmD) (i3 ix di op oa ln : Int32) : vmD := sF (sF (sF (sF (sF (sF r 42 59 i3) 42 60 ix) 42 62 di) 42 61 op) 42 64 oa) 42 63 ln
theorem rb_sF (d : vmD) (o f : Nat) (v x : Int32) : rb (sF d o f v) x = rb d x := rfl
theorem b01 (p : Prop) [Decidable p] {a b : Int32} (ha : a = 0 ∨ a = 1) (hb : b = 0 ∨ b = 1) : (if p then a else b) = 0 ∨ (if p then a else b) = 1 := by
  split
  · exact ha
  · exact hb
theorem sF_same (d : vmD) (o f : Nat) (a b : Int32) : sF (sF d o f a) o f b = sF d o f b := by
  refine D_ext (fun x => ?_) (fun _ => rfl) (fun _ => rfl) (fun _ => rfl)
  by_cases h : x = o
  · subst h
    rw [gF_sF, gF_sF, gF_sF]
    funext k
    unfold u1f
    split <;> rfl
  · rw [gF_sF_ne _ _ _ h, gF_sF_ne _ _ _ h, gF_sF_ne _ _ _ h]
theorem sF_comm (d : vmD) (o : Nat) {f g : Nat} (a b : Int32) (hf : ¬ f = g) : sF (sF d o f a) o g b = sF (sF d o g b) o f a := by
  refine D_ext (fun x => ?_) (fun _ => rfl) (fun _ => rfl) (fun _ => rfl)
  by_cases h : x = o
  · subst h
    rw [gF_sF, gF_sF, gF_sF, gF_sF]
    funext k
    unfold u1f
    by_cases e : k = f
    · subst e
      rw [if_neg hf, if_pos rfl, if_pos rfl]
    · by_cases e2 : k = g
      · rw [if_pos e2, if_neg e, if_pos e2]
      · rw [if_neg e2, if_neg e, if_neg e, if_neg e2]
  · rw [gF_sF_ne _ _ _ h, gF_sF_ne _ _ _ h, gF_sF_ne _ _ _ h, gF_sF_ne _ _ _ h]
theorem dS_59 (r : vmD) (i3 ix di op oa ln v : Int32) : sF (dS r i3 ix di op oa ln) 42 59 v = dS r v ix di op oa ln := by
  unfold dS
  rw [sF_comm _ 42 (f := 63) (g := 59) _ _ (by decide), sF_comm _ 42 (f := 64) (g := 59) _ _ (by decide), sF_comm _ 42 (f := 61) (g := 59) _ _ (by decide), sF_comm _ 42 (f := 62) (g := 59) _ _ (by decide), sF_comm _ 42 (f := 60) (g := 59) _ _ (by decide), sF_same]
theorem dg_59 (r : vmD) (i3 ix di op oa ln : Int32) : gF (dS r i3 ix di op oa ln) 42 59 = i3 := by
  unfold dS
  simp only [gA_sA, gA_sA_ne, gA_sF, gA_sG, gA_sL, gF_sA, gF_sF, gF_sF_ne, gF_sG, gF_sL, gG_sA, gG_sF, gG_sL, gG_sGe, gG_sG_ne, gL_sA, gL_sF, gL_sG, gL_sLe, gL_sL_ne, u1f_eq, u1f_ne, bnd_iff, not_false_eq_true, Nat.reduceEqDiff]
theorem dS_60 (r : vmD) (i3 ix di op oa ln v : Int32) : sF (dS r i3 ix di op oa ln) 42 60 v = dS r i3 v di op oa ln := by
  unfold dS
  rw [sF_comm _ 42 (f := 63) (g := 60) _ _ (by decide), sF_comm _ 42 (f := 64) (g := 60) _ _ (by decide), sF_comm _ 42 (f := 61) (g := 60) _ _ (by decide), sF_comm _ 42 (f := 62) (g := 60) _ _ (by decide), sF_same]
theorem dg_60 (r : vmD) (i3 ix di op oa ln : Int32) : gF (dS r i3 ix di op oa ln) 42 60 = ix := by
  unfold dS
  simp only [gA_sA, gA_sA_ne, gA_sF, gA_sG, gA_sL, gF_sA, gF_sF, gF_sF_ne, gF_sG, gF_sL, gG_sA, gG_sF, gG_sL, gG_sGe, gG_sG_ne, gL_sA, gL_sF, gL_sG, gL_sLe, gL_sL_ne, u1f_eq, u1f_ne, bnd_iff, not_false_eq_true, Nat.reduceEqDiff]
theorem dS_62 (r : vmD) (i3 ix di op oa ln v : Int32) : sF (dS r i3 ix di op oa ln) 42 62 v = dS r i3 ix v op oa ln := by
  unfold dS
  rw [sF_comm _ 42 (f := 63) (g := 62) _ _ (by decide), sF_comm _ 42 (f := 64) (g := 62) _ _ (by decide), sF_comm _ 42 (f := 61) (g := 62) _ _ (by decide), sF_same]
theorem dg_62 (r : vmD) (i3 ix di op oa ln : Int32) : gF (dS r i3 ix di op oa ln) 42 62 = di := by
  unfold dS
  simp only [gA_sA, gA_sA_ne, gA_sF, gA_sG, gA_sL, gF_sA, gF_sF, gF_sF_ne, gF_sG, gF_sL, gG_sA, gG_sF, gG_sL, gG_sGe, gG_sG_ne, gL_sA, gL_sF, gL_sG, gL_sLe, gL_sL_ne, u1f_eq, u1f_ne, bnd_iff, not_false_eq_true, Nat.reduceEqDiff]
theorem dS_61 (r : vmD) (i3 ix di op oa ln v : Int32) : sF (dS r i3 ix di op oa ln) 42 61 v = dS r i3 ix di v oa ln := by
  unfold dS
  rw [sF_comm _ 42 (f := 63) (g := 61) _ _ (by decide), sF_comm _ 42 (f := 64) (g := 61) _ _ (by decide), sF_same]
theorem dg_61 (r : vmD) (i3 ix di op oa ln : Int32) : gF (dS r i3 ix di op oa ln) 42 61 = op := by
  unfold dS
  simp only [gA_sA, gA_sA_ne, gA_sF, gA_sG, gA_sL, gF_sA, gF_sF, gF_sF_ne, gF_sG, gF_sL, gG_sA, gG_sF, gG_sL, gG_sGe, gG_sG_ne, gL_sA, gL_sF, gL_sG, gL_sLe, gL_sL_ne, u1f_eq, u1f_ne, bnd_iff, not_false_eq_true, Nat.reduceEqDiff]
theorem dS_64 (r : vmD) (i3 ix di op oa ln v : Int32) : sF (dS r i3 ix di op oa ln) 42 64 v = dS r i3 ix di op v ln := by
  unfold dS
  rw [sF_comm _ 42 (f := 63) (g := 64) _ _ (by decide), sF_same]
theorem dg_64 (r : vmD) (i3 ix di op oa ln : Int32) : gF (dS r i3 ix di op oa ln) 42 64 = oa := by
  unfold dS
  simp only [gA_sA, gA_sA_ne, gA_sF, gA_sG, gA_sL, gF_sA, gF_sF, gF_sF_ne, gF_sG, gF_sL, gG_sA, gG_sF, gG_sL, gG_sGe, gG_sG_ne, gL_sA, gL_sF, gL_sG, gL_sLe, gL_sL_ne, u1f_eq, u1f_ne, bnd_iff, not_false_eq_true, Nat.reduceEqDiff]
theorem dS_63 (r : vmD) (i3 ix di op oa ln v : Int32) : sF (dS r i3 ix di op oa ln) 42 63 v = dS r i3 ix di op oa v := by
  unfold dS
  rw [sF_same]
theorem dg_63 (r : vmD) (i3 ix di op oa ln : Int32) : gF (dS r i3 ix di op oa ln) 42 63 = ln := by
  unfold dS
  simp only [gA_sA, gA_sA_ne, gA_sF, gA_sG, gA_sL, gF_sA, gF_sF, gF_sF_ne, gF_sG, gF_sL, gG_sA, gG_sF, gG_sL, gG_sGe, gG_sG_ne, gL_sA, gL_sF, gL_sG, gL_sLe, gL_sL_ne, u1f_eq, u1f_ne, bnd_iff, not_false_eq_true, Nat.reduceEqDiff]
theorem dg_x (r : vmD) (i3 ix di op oa ln : Int32) {f : Nat} (h1 : ¬ f = 59) (h2 : ¬ f = 60) (h3 : ¬ f = 61) (h4 : ¬ f = 62) (h5 : ¬ f = 63) (h6 : ¬ f = 64) : gF (dS r i3 ix di op oa ln) 42 f = gF r 42 f := by
  unfold dS
  rw [gF_sF, u1f_ne _ _ h5, gF_sF, u1f_ne _ _ h6, gF_sF, u1f_ne _ _ h3, gF_sF, u1f_ne _ _ h4, gF_sF, u1f_ne _ _ h2, gF_sF, u1f_ne _ _ h1]
theorem dA (r : vmD) (i3 ix di op oa ln : Int32) (o : Nat) : gA (dS r i3 ix di op oa ln) o = gA r o := rfl
theorem rb_dS (r : vmD) (i3 ix di op oa ln : Int32) (x : Int32) : rb (dS r i3 ix di op oa ln) x = rb r x := rfl
theorem Rel.dS {c r : vmD} (i3 ix di op oa ln : Int32) : Rel c (dS r i3 ix di op oa ln) = Rel c r := by
  unfold COpcodeForgeLaw_law_r8137_1f76cf.dS
  rw [Rel.s42_63, Rel.s42_64, Rel.s42_61, Rel.s42_62, Rel.s42_60, Rel.s42_59]
theorem dec_0 (x : Int32) (r : vmD) : sF (sF (sF (sF (sF (sF r 42 59 0) 42 60 0) 42 62 0) 42 61 (rb r x)) 42 64 (x + 1)) 42 63 (MO_plainLength_v (rb r x)) = dS r 0 0 0 (rb r x) (x + 1) (MO_plainLength_v (rb r x)) := rfl
theorem dec_eq (x : Int32) (r : vmD) (Q : Int32 → vmD → Prop) : MO_decode x r Q =
    if rb r x = 203 then Q (if rb r (x + 1) >>> ((3 : Int32) &&& 31) = 6 then 0 else 1) (dS r 1 0 0 (rb r (x + 1)) (x + 1) 2)
    else if rb r x = 237 then Q (MO_isBehind237_v (rb r (x + 1))) (dS r 2 0 0 (rb r (x + 1)) (x + 2) (if rb r (x + 1) >>> ((6 : Int32) &&& 31) = 1 then (if rb r (x + 1) &&& 7 = 3 then 4 else 2) else 2))
    else if rb r x = 221 then MO_decode_186 x 1 (dS r 0 0 0 (rb r x) (x + 1) (MO_plainLength_v (rb r x))) Q
    else if rb r x = 253 then MO_decode_186 x 2 (dS r 0 0 0 (rb r x) (x + 1) (MO_plainLength_v (rb r x))) Q
    else Q 1 (dS r 0 0 0 (rb r x) (x + 1) (MO_plainLength_v (rb r x))) := by
  have hb : ∀ v : Int32, MO_isBehind237_v v = 0 ∨ MO_isBehind237_v v = 1 := by
    intro v
    unfold MO_isBehind237_v
    dsimp only
    repeat' (first | exact Or.inl rfl | exact Or.inr rfl | apply b01)
  unfold MO_decode
  simp only [peek_eq, bnd_iff, MO_plainLength_e, rb_sF]
  simp only [dec_0, MO_decode_173, MO_decode_144, MO_decode_145, MO_isBehind237_e, dS_59, dS_60, dS_61, dS_62, dS_63, dS_64, dg_59, dg_60, dg_61, dg_62, dg_63, dg_64, rb_dS, rb_sF, peek_eq, bnd_iff, tA (hb _)]
  split
  · split <;> rfl
  · split
    · split
      · split <;> rfl
      · rfl
    · split
      · rfl
      · split
        · rfl
        · rfl
theorem hl_b (v : Int32) : MO_hasHL_v v = 0 ∨ MO_hasHL_v v = 1 := by
  unfold MO_hasHL_v MO_hasHL_36_v MO_hasHL_51_v MO_hasHL_101_v MO_hasHL_111_v
  dsimp only
  repeat' (first | exact Or.inl rfl | exact Or.inr rfl | apply b01)
theorem dec186_eq (x ix a0 a1 a2 a3 a4 a5 : Int32) (r : vmD) (Q : Int32 → vmD → Prop) : MO_decode_186 x ix (dS r a0 a1 a2 a3 a4 a5) Q =
    if rb r (x + 1) = 203 then Q (if rb r (x + 3) &&& 7 = 6 then (if rb r (x + 3) >>> ((3 : Int32) &&& 31) = 6 then 0 else 1) else 0) (dS r 1 ix (MO_signed_v (rb r (x + 2))) (rb r (x + 3)) a4 4)
    else if MO_hasPlace_v (rb r (x + 1)) = 0 then Q (MO_hasHL_v (rb r (x + 1))) (dS r a0 ix a2 (rb r (x + 1)) (x + 2) ((1 : Int32) + MO_plainLength_v (rb r (x + 1))))
    else Q 1 (dS r a0 ix (MO_signed_v (rb r (x + 2))) (rb r (x + 1)) (x + 3) ((1 : Int32) + MO_plainLength_v (rb r (x + 1)) + 1)) := by
  unfold MO_decode_186
  simp only [dS_59, dS_60, dS_61, dS_62, dS_63, dS_64, dg_59, dg_60, dg_61, dg_62, dg_63, dg_64, rb_dS, rb_sF, peek_eq, bnd_iff, MO_signed_e, MO_plainLength_e, MO_hasPlace_e, MO_hasHL_e, tA (hl_b _)]
  split
  · split
    · split <;> rfl
    · rfl
  · split <;> rfl
