/-! Looking at an instruction: the class's side -/
def lS (c : vmD) (op ex w f e sz di nu : Int32) : vmD := sF (sF (sF (sF (sF (sF (sF (sF c 19 4 op) 19 3 ex) 19 5 w) 19 6 f) 19 7 e) 19 10 sz) 19 8 di) 19 9 nu
theorem lg_4 (c : vmD) (op ex w f e sz di nu : Int32) : gF (lS c op ex w f e sz di nu) 19 4 = op := by
  unfold lS
  simp only [gA_sA, gA_sA_ne, gA_sF, gA_sG, gA_sL, gF_sA, gF_sF, gF_sF_ne, gF_sG, gF_sL, gG_sA, gG_sF, gG_sL, gG_sGe, gG_sG_ne, gL_sA, gL_sF, gL_sG, gL_sLe, gL_sL_ne, u1f_eq, u1f_ne, bnd_iff, not_false_eq_true, Nat.reduceEqDiff]
theorem lg_3 (c : vmD) (op ex w f e sz di nu : Int32) : gF (lS c op ex w f e sz di nu) 19 3 = ex := by
  unfold lS
  simp only [gA_sA, gA_sA_ne, gA_sF, gA_sG, gA_sL, gF_sA, gF_sF, gF_sF_ne, gF_sG, gF_sL, gG_sA, gG_sF, gG_sL, gG_sGe, gG_sG_ne, gL_sA, gL_sF, gL_sG, gL_sLe, gL_sL_ne, u1f_eq, u1f_ne, bnd_iff, not_false_eq_true, Nat.reduceEqDiff]
theorem lg_5 (c : vmD) (op ex w f e sz di nu : Int32) : gF (lS c op ex w f e sz di nu) 19 5 = w := by
  unfold lS
  simp only [gA_sA, gA_sA_ne, gA_sF, gA_sG, gA_sL, gF_sA, gF_sF, gF_sF_ne, gF_sG, gF_sL, gG_sA, gG_sF, gG_sL, gG_sGe, gG_sG_ne, gL_sA, gL_sF, gL_sG, gL_sLe, gL_sL_ne, u1f_eq, u1f_ne, bnd_iff, not_false_eq_true, Nat.reduceEqDiff]
theorem lg_6 (c : vmD) (op ex w f e sz di nu : Int32) : gF (lS c op ex w f e sz di nu) 19 6 = f := by
  unfold lS
  simp only [gA_sA, gA_sA_ne, gA_sF, gA_sG, gA_sL, gF_sA, gF_sF, gF_sF_ne, gF_sG, gF_sL, gG_sA, gG_sF, gG_sL, gG_sGe, gG_sG_ne, gL_sA, gL_sF, gL_sG, gL_sLe, gL_sL_ne, u1f_eq, u1f_ne, bnd_iff, not_false_eq_true, Nat.reduceEqDiff]
theorem lg_7 (c : vmD) (op ex w f e sz di nu : Int32) : gF (lS c op ex w f e sz di nu) 19 7 = e := by
  unfold lS
  simp only [gA_sA, gA_sA_ne, gA_sF, gA_sG, gA_sL, gF_sA, gF_sF, gF_sF_ne, gF_sG, gF_sL, gG_sA, gG_sF, gG_sL, gG_sGe, gG_sG_ne, gL_sA, gL_sF, gL_sG, gL_sLe, gL_sL_ne, u1f_eq, u1f_ne, bnd_iff, not_false_eq_true, Nat.reduceEqDiff]
theorem lg_10 (c : vmD) (op ex w f e sz di nu : Int32) : gF (lS c op ex w f e sz di nu) 19 10 = sz := by
  unfold lS
  simp only [gA_sA, gA_sA_ne, gA_sF, gA_sG, gA_sL, gF_sA, gF_sF, gF_sF_ne, gF_sG, gF_sL, gG_sA, gG_sF, gG_sL, gG_sGe, gG_sG_ne, gL_sA, gL_sF, gL_sG, gL_sLe, gL_sL_ne, u1f_eq, u1f_ne, bnd_iff, not_false_eq_true, Nat.reduceEqDiff]
theorem lg_8 (c : vmD) (op ex w f e sz di nu : Int32) : gF (lS c op ex w f e sz di nu) 19 8 = di := by
  unfold lS
  simp only [gA_sA, gA_sA_ne, gA_sF, gA_sG, gA_sL, gF_sA, gF_sF, gF_sF_ne, gF_sG, gF_sL, gG_sA, gG_sF, gG_sL, gG_sGe, gG_sG_ne, gL_sA, gL_sF, gL_sG, gL_sLe, gL_sL_ne, u1f_eq, u1f_ne, bnd_iff, not_false_eq_true, Nat.reduceEqDiff]
theorem lg_9 (c : vmD) (op ex w f e sz di nu : Int32) : gF (lS c op ex w f e sz di nu) 19 9 = nu := by
  unfold lS
  simp only [gA_sA, gA_sA_ne, gA_sF, gA_sG, gA_sL, gF_sA, gF_sF, gF_sF_ne, gF_sG, gF_sL, gG_sA, gG_sF, gG_sL, gG_sGe, gG_sG_ne, gL_sA, gL_sF, gL_sG, gL_sLe, gL_sL_ne, u1f_eq, u1f_ne, bnd_iff, not_false_eq_true, Nat.reduceEqDiff]
theorem lg_x (c : vmD) (op ex w f e sz di nu : Int32) {k : Nat} (h : ¬ k = 19) : gF (lS c op ex w f e sz di nu) k = gF c k := by
  unfold lS
  simp only [gF_sF_ne _ _ _ h]
theorem lA (c : vmD) (op ex w f e sz di nu : Int32) (k : Nat) : gA (lS c op ex w f e sz di nu) k = gA c k := rfl
theorem mb_lS (c : vmD) (op ex w f e sz di nu x : Int32) : mb (lS c op ex w f e sz di nu) x = mb c x := rfl
theorem mb_sF (c : vmD) (k f : Nat) (v x : Int32) : mb (sF c k f v) x = mb c x := rfl
theorem mw_sF (c : vmD) (k f : Nat) (v x : Int32) : mw (sF c k f v) x = mw c x := rfl
theorem Rel.lS {c r : vmD} (op ex w f e sz di nu : Int32) : Rel (lS c op ex w f e sz di nu) r = Rel c r := by
  unfold COpcodeForgeLaw_law_r8137_1f76cf.lS
  simp only [Rel.s19]
def CC (c : vmD) : Prop := RCst (gL c 4) (gA c 16) (gA c 17) (gA c 18)
theorem CC.sF {c : vmD} (h : CC c) (o f : Nat) (v : Int32) : CC (sF c o f v) := h
theorem has_eq {c : vmD} (hC : CC c) {n : Nat} (hn : n < 1792) (Q : Int32 → vmD → Prop) : Shapes_has (nI n) c Q = Q (if tabS n < 0 then 0 else 1) c := by
  unfold Shapes_has
  have h2 : nI n < 1792 := nI_lt (b := 1792) hn (by omega)
  rw [if_neg (nI_pos (by omega)), if_pos h2, tA (nI_in hn (by omega))]
  refine (propext bnd_iff).trans ?_
  rw [nI_clamp (by omega), hC.2.1 n hn]
  split <;> rfl
theorem sha_eq {c : vmD} (hC : CC c) {n : Nat} (hn : n < 1792) (hs : ¬ tabS n < 0) (Q : Int32 → vmD → Prop) : Shapes_shapeAt (nI n) c Q = Q (tabS n) c := by
  unfold Shapes_shapeAt
  rw [has_eq hC hn, if_neg hs, if_neg (by decide), tA (nI_in hn (by omega))]
  refine (propext bnd_iff).trans ?_
  rw [nI_clamp (by omega), hC.2.1 n hn]
def fV (n : Nat) : Int32 := (tabS n >>> ((8 : Int32) &&& 31)) &&& 255
def eV (n : Nat) : Int32 := tabS n &&& 255
def wV (n : Nat) : Int32 := tabS n >>> ((16 : Int32) &&& 31)
def ldV (g : Nat) : Int32 := if g = 0 then 1 else if g < 5 then 2 else 3
def zV (g k : Nat) : Int32 := (ldV g + Shapes_lengthOf_v (fV (256 * g + k))) + Shapes_lengthOf_v (eV (256 * g + k))
theorem kd0_eq {c : vmD} (hC : CC c) {n : Nat} (hn : n < 1792) (hs : ¬ tabS n < 0) (Q : Int32 → vmD → Prop) : Shapes_kind (nI n) 0 c Q = Q (fV n) c := by
  unfold Shapes_kind
  rw [if_pos rfl, sha_eq hC hn hs]
  rfl
theorem kd1_eq {c : vmD} (hC : CC c) {n : Nat} (hn : n < 1792) (hs : ¬ tabS n < 0) (Q : Int32 → vmD → Prop) : Shapes_kind (nI n) 1 c Q = Q (eV n) c := by
  unfold Shapes_kind
  rw [if_neg (by decide), sha_eq hC hn hs]
  rfl
theorem wd_eq {c : vmD} (hC : CC c) {n : Nat} (hn : n < 1792) (hs : ¬ tabS n < 0) (Q : Int32 → vmD → Prop) : Shapes_word (nI n) c Q = Q (wV n) c := by
  unfold Shapes_word
  rw [sha_eq hC hn hs]
  rfl
theorem szs_eq {c : vmD} (hC : CC c) {g k : Nat} (hg : g < 7) (hk : k < 256) (hs : ¬ tabS (256 * g + k) < 0) (Q : Int32 → vmD → Prop) : Shapes_size (nI (256 * g + k)) c Q = Q (zV g k) c := by
  unfold Shapes_size
  rw [shr8 (by omega), show (256 * g + k) / 256 = g by omega]
  have e5 : nI g < 5 ↔ g < 5 := nI_ltI (b := 5) (by omega) (by omega)
  have e0 : nI g = 0 ↔ g = 0 := nI_eq (b := 0) (by omega) (by omega)
  unfold zV ldV
  simp only [e5, e0, Shapes_size_24, kd0_eq hC (show 256 * g + k < 1792 by omega) hs, kd1_eq hC (show 256 * g + k < 1792 by omega) hs, Shapes_lengthOf_e]
  split
  · rfl
  · split <;> rfl
def nearV (n : Nat) : Bool := decide (fV n = 32) || decide (fV n = 33) || decide (eV n = 32) || decide (eV n = 33)
theorem code_eq {g k : Nat} (hg : g < 7) (hk : k < 256) : (nI g <<< ((8 : Int32) &&& 31)) ||| nI k = nI (256 * g + k) := by
  rw [shl8 (by omega), nx_or8 hk, Nat.mul_comm]
/-- no instruction there: DB -/
theorem look67_no {c : vmD} (hC : CC c) {g k : Nat} (hg : g < 7) (hk : k < 256) {ld at_ : Int32} (hop : mb c at_ = nI k) (hs : tabS (256 * g + k) < 0) (Q : vmD → Prop) : Instruction_look_67 ld (nI g) at_ c Q = Q (lS c (nI k) 0 101 36 0 1 (Int8.toInt32 (Int32.toInt8 (mb c (bif decide (g = 5) || decide (g = 6) then at_ - 1 else at_ + 1)))) ld) := by
  have e5 : nI g = 5 ↔ g = 5 := nI_eq (b := 5) (by omega) (by omega)
  have e6 : nI g = 6 ↔ g = 6 := nI_eq (b := 6) (by omega) (by omega)
  unfold Instruction_look_67
  rw [mat_eq, hop]
  refine (propext bnd_iff).trans ?_
  rw [gF_sF, u1f_eq, code_eq hg hk]
  refine (propext bnd_iff).trans ?_
  rw [has_eq (hC.sF _ _ _) (by omega), if_pos hs, tA (Or.inl rfl)]
  refine (propext bnd_iff).trans ?_
  simp (config := { decide := true }) only [Instruction_look_126, Instruction_look_152, Instruction_look_177, Instruction_look_201, Instruction_look_221, Instruction_look_226, Instruction_look_247, Instruction_look_269, Instruction_look_284, Instruction_look_287, Instruction_look_326, Instruction_isNear_e, Instruction_isNear_v, gA_sA, gA_sA_ne, gA_sF, gA_sG, gA_sL, gF_sA, gF_sF, gF_sF_ne, gF_sG, gF_sL, gG_sA, gG_sF, gG_sL, gG_sGe, gG_sG_ne, gL_sA, gL_sF, gL_sG, gL_sLe, gL_sL_ne, u1f_eq, u1f_ne, bnd_iff, not_false_eq_true, Nat.reduceEqDiff, mat_eq, mb_sF, e5, e6, if_true, if_false]
  by_cases h5 : g = 5
  · simp (config := { decide := true }) only [h5, decide_true, Bool.true_or, cond_true, if_true]
    rfl
  · by_cases h6 : g = 6
    · simp (config := { decide := true }) only [h5, h6, decide_true, Bool.or_true, cond_true, if_true, if_false]
      rfl
    · simp (config := { decide := true }) only [h5, h6, decide_false, Bool.or_false, cond_false, if_true, if_false]
      rfl
/-- an instruction there -/
def behV (g k : Nat) (at_ : Int32) : Int32 := bif nearV (256 * g + k) && !(decide (g = 5) || decide (g = 6)) then at_ + 1 + 1 else at_ + 1
theorem look67_yes {c : vmD} (hC : CC c) {g k : Nat} (hg : g < 7) (hk : k < 256) {ld at_ : Int32} (hop : mb c at_ = nI k) (hs : ¬ tabS (256 * g + k) < 0) (Q : vmD → Prop) : Instruction_look_67 ld (nI g) at_ c Q = Instruction_numberOf (if Instruction_isNumber_v (fV (256 * g + k)) = 0 then eV (256 * g + k) else fV (256 * g + k)) (behV g k at_) (sF (sF (sF (sF (sF (sF (sF c 19 4 (nI k)) 19 3 1) 19 5 (wV (256 * g + k))) 19 6 (fV (256 * g + k))) 19 7 (eV (256 * g + k))) 19 10 (zV g k)) 19 8 (Int8.toInt32 (Int32.toInt8 (mb c (bif decide (g = 5) || decide (g = 6) then at_ - 1 else at_ + 1))))) (fun v d => Q (sF d 19 9 v)) := by
  have e5 : nI g = 5 ↔ g = 5 := nI_eq (b := 5) (by omega) (by omega)
  have e6 : nI g = 6 ↔ g = 6 := nI_eq (b := 6) (by omega) (by omega)
  have hn : 256 * g + k < 1792 := by omega
  unfold Instruction_look_67
  rw [mat_eq, hop]
  refine (propext bnd_iff).trans ?_
  rw [gF_sF, u1f_eq, code_eq hg hk]
  refine (propext bnd_iff).trans ?_
  rw [has_eq (hC.sF _ _ _) hn, if_neg hs, tA (Or.inr rfl)]
  refine (propext bnd_iff).trans ?_
  rw [gF_sF, u1f_eq, if_neg (by decide), wd_eq ((hC.sF _ _ _).sF _ _ _) hn hs]
  unfold Instruction_look_126
  refine (propext bnd_iff).trans ?_
  rw [show gF (sF (sF (sF c 19 4 (nI k)) 19 3 1) 19 5 (wV (256 * g + k))) 19 3 = 1 by simp only [gA_sA, gA_sA_ne, gA_sF, gA_sG, gA_sL, gF_sA, gF_sF, gF_sF_ne, gF_sG, gF_sL, gG_sA, gG_sF, gG_sL, gG_sGe, gG_sG_ne, gL_sA, gL_sF, gL_sG, gL_sLe, gL_sL_ne, u1f_eq, u1f_ne, bnd_iff, not_false_eq_true, Nat.reduceEqDiff], if_neg (by decide), kd0_eq (((hC.sF _ _ _).sF _ _ _).sF _ _ _) hn hs]
  unfold Instruction_look_152
  refine (propext bnd_iff).trans ?_
  rw [show gF (sF (sF (sF (sF c 19 4 (nI k)) 19 3 1) 19 5 (wV (256 * g + k))) 19 6 (fV (256 * g + k))) 19 3 = 1 by simp only [gA_sA, gA_sA_ne, gA_sF, gA_sG, gA_sL, gF_sA, gF_sF, gF_sF_ne, gF_sG, gF_sL, gG_sA, gG_sF, gG_sL, gG_sGe, gG_sG_ne, gL_sA, gL_sF, gL_sG, gL_sLe, gL_sL_ne, u1f_eq, u1f_ne, bnd_iff, not_false_eq_true, Nat.reduceEqDiff], if_neg (by decide), kd1_eq ((((hC.sF _ _ _).sF _ _ _).sF _ _ _).sF _ _ _) hn hs]
  unfold Instruction_look_177
  refine (propext bnd_iff).trans ?_
  rw [show gF (sF (sF (sF (sF (sF c 19 4 (nI k)) 19 3 1) 19 5 (wV (256 * g + k))) 19 6 (fV (256 * g + k))) 19 7 (eV (256 * g + k))) 19 3 = 1 by simp only [gA_sA, gA_sA_ne, gA_sF, gA_sG, gA_sL, gF_sA, gF_sF, gF_sF_ne, gF_sG, gF_sL, gG_sA, gG_sF, gG_sL, gG_sGe, gG_sG_ne, gL_sA, gL_sF, gL_sG, gL_sLe, gL_sL_ne, u1f_eq, u1f_ne, bnd_iff, not_false_eq_true, Nat.reduceEqDiff], if_neg (by decide), szs_eq (((((hC.sF _ _ _).sF _ _ _).sF _ _ _).sF _ _ _).sF _ _ _) hg hk hs]
  simp (config := { decide := true }) only [Instruction_look_201, Instruction_look_221, Instruction_look_226, Instruction_look_247, Instruction_look_269, Instruction_look_284, Instruction_look_287, Instruction_look_317, Instruction_look_326, Instruction_isNear_e, Instruction_isNumber_e, Instruction_isNear_v, gA_sA, gA_sA_ne, gA_sF, gA_sG, gA_sL, gF_sA, gF_sF, gF_sF_ne, gF_sG, gF_sL, gG_sA, gG_sF, gG_sL, gG_sGe, gG_sG_ne, gL_sA, gL_sF, gL_sG, gL_sLe, gL_sL_ne, u1f_eq, u1f_ne, bnd_iff, not_false_eq_true, Nat.reduceEqDiff, mat_eq, mb_sF, e5, e6, if_true, if_false]
  unfold behV nearV
  have fin : ∀ (q : Int32 → vmD → Prop) (x : Int32) (d : vmD), (if Instruction_isNumber_v (fV (256 * g + k)) = 0 then Instruction_numberOf (eV (256 * g + k)) x d q else Instruction_numberOf (fV (256 * g + k)) x d q) = Instruction_numberOf (if Instruction_isNumber_v (fV (256 * g + k)) = 0 then eV (256 * g + k) else fV (256 * g + k)) x d q := by
    intro q x d
    split <;> rfl
  by_cases h5 : g = 5
  · have h6 : ¬ g = 6 := by omega
    simp (config := { decide := true }) only [h5, if_true, if_false, decide_true, Bool.true_or, Bool.not_true, Bool.and_false, cond_true, cond_false]
    simp only [h5] at fin
    rw [← fin]
    repeat' split
    all_goals rfl
  · by_cases h6 : g = 6
    · simp (config := { decide := true }) only [h6, if_true, if_false, decide_true, Bool.or_true, Bool.not_true, Bool.and_false, cond_true, cond_false]
      simp only [h6] at fin
      rw [← fin]
      repeat' split
      all_goals rfl
    · simp only [h5, h6, if_true, if_false, decide_false, Bool.or_false, Bool.not_false, Bool.and_true, cond_false, fin]
      by_cases a1 : fV (256 * g + k) = 32
      · simp (config := { decide := true }) only [a1, decide_true, decide_false, Bool.or_true, Bool.true_or, Bool.or_false, Bool.false_or, cond_true, cond_false, if_true, if_false]
      · by_cases a2 : fV (256 * g + k) = 33
        · simp (config := { decide := true }) only [a2, decide_true, decide_false, Bool.or_true, Bool.true_or, Bool.or_false, Bool.false_or, cond_true, cond_false, if_true, if_false]
        · by_cases a3 : eV (256 * g + k) = 32
          · simp (config := { decide := true }) only [a1, a2, a3, decide_true, decide_false, Bool.or_true, Bool.true_or, Bool.or_false, Bool.false_or, cond_true, cond_false, if_true, if_false]
          · by_cases a4 : eV (256 * g + k) = 33
            · simp (config := { decide := true }) only [a1, a2, a4, decide_true, decide_false, Bool.or_true, Bool.true_or, Bool.or_false, Bool.false_or, cond_true, cond_false, if_true, if_false]
            · simp (config := { decide := true }) only [a1, a2, a3, a4, decide_true, decide_false, Bool.or_true, Bool.true_or, Bool.or_false, Bool.false_or, cond_true, cond_false, if_true, if_false]
