/-! The data against the claim's own tables: what the interpreter takes from the data is in lw_tbl, and is what decode says. -/
noncomputable def TB : List Jvm.Cond := lw_tbl.filter goodWord
theorem TB_of {i : Nat} {w : Jvm.Cond} (h : lw_tbl[i]? = some w) (g : goodWord w = true) : w ∈ TB := List.mem_filter.mpr ⟨List.mem_of_getElem? h, g⟩
theorem TB_good {w : Jvm.Cond} (h : w ∈ TB) : goodWord w = true := (List.mem_filter.mp h).2
theorem TB_tbl {w : Jvm.Cond} (h : w ∈ TB) : w ∈ lw_tbl := (List.mem_filter.mp h).1
noncomputable def ckAt (i : Nat) (w : Jvm.Cond) : Bool := decide (lw_tbl[i]? = some w) && goodWord w
theorem ckAt_TB {i : Nat} {w : Jvm.Cond} (h : ckAt i w = true) : w ∈ TB := by
  unfold ckAt at h
  rw [Bool.and_eq_true, decide_eq_true_eq] at h
  exact TB_of h.1 h.2
noncomputable def ckF (c j : Nat) : Bool := match rF c j with
  | none => true
  | some (ci, f, h) => ckAt h (.fieldLink (cN c) j (cN ci) (cT ci f).2.1 (cT ci f).2.2.1) && (decide ((cT ci f).1 = cN ci) && (Nat.blt f (cF ci) && Nat.blt ci 14))
noncomputable def ckM (c j : Nat) : Bool := match rM c j with
  | none => true
  | some (kd, k', hs) => match kd with
    | 0 => Nat.blt k' 406 && (ckAt (hs.getD 0 0) (.methodLink (cN c) j (mN k')) && (ckAt (hs.getD 1 0) (.static (mN k')) && ckAt (hs.getD 2 0) (.initialized (mN k').cls)))
    | 1 => Nat.blt k' 406 && (decide (lw_tbl[hs.getD 0 0]? = some (.methodLinkNest (cN c) j (mN k') (rH c j))) && (ckAt (hs.getD 1 0) (.static (mN k')) && ckAt (hs.getD 2 0) (.initialized (mN k').cls)))
    | 2 => Nat.blt k' 406 && (ckAt (hs.getD 0 0) (.methodLink (cN c) j (mN k')) && (ckAt (hs.getD 1 0) (.instanceMethod (mN k')) && (ckAt (hs.getD 2 0) (.selects (mN k').cls (mN k') (mN k')) && ckAt (hs.getD 3 0) (.initialized (mN k').cls))))
    | 3 => Nat.blt k' 406 && (decide (lw_tbl[hs.getD 0 0]? = some (.methodLinkNest (cN c) j (mN k') (rH c j))) && (ckAt (hs.getD 1 0) (.instanceMethod (mN k')) && (ckAt (hs.getD 2 0) (.selects (mN k').cls (mN k') (mN k')) && ckAt (hs.getD 3 0) (.initialized (mN k').cls))))
    | 4 => (Nat.blt k' 406 && mInit k') && (ckAt (hs.getD 0 0) (.methodLink (cN c) j (mN k')) && (ckAt (hs.getD 1 0) (.instanceMethod (mN k')) && ckAt (hs.getD 2 0) (.initialized (mN k').cls)))
    | 5 => (Nat.blt k' 406 && mInit k') && (decide (lw_tbl[hs.getD 0 0]? = some (.methodLinkNest (cN c) j (mN k') (rH c j))) && (ckAt (hs.getD 1 0) (.instanceMethod (mN k')) && ckAt (hs.getD 2 0) (.initialized (mN k').cls)))
    | 6 => ckAt (hs.getD 0 0) (.methodLink (cN c) j objectInit) && (ckAt (hs.getD 1 0) (.instanceMethod objectInit) && ckAt (hs.getD 2 0) (.code objectInit ⟨#[0xb1]⟩ 1 none))
    | 7 => ckAt (hs.getD 0 0) (.methodLink (cN c) j yJ0_length_8abf5)
    | 8 => ckAt (hs.getD 0 0) (.methodLink (cN c) j yJ0_charAt_5068e)
    | 9 => ckAt (hs.getD 0 0) (.methodLink (cN c) j yJ0_indexOf_0f7a4)
    | 10 => ckAt (hs.getD 0 0) (.methodLink (cN c) j Lib.Math.max.name) && (ckAt (hs.getD 1 0) (.static Lib.Math.max.name) && (ckAt (hs.getD 2 0) (.initialized "java/lang/Math") && ckAt (hs.getD 3 0) (.code Lib.Math.max.name Lib.Math.max.code 2 (some .int))))
    | 11 => ckAt (hs.getD 0 0) (.methodLink (cN c) j Lib.Math.min.name) && (ckAt (hs.getD 1 0) (.static Lib.Math.min.name) && (ckAt (hs.getD 2 0) (.initialized "java/lang/Math") && ckAt (hs.getD 3 0) (.code Lib.Math.min.name Lib.Math.min.code 2 (some .int))))
    | 12 => ckAt (hs.getD 0 0) (.methodLink (cN c) j Lib.Math.abs.name) && (ckAt (hs.getD 1 0) (.static Lib.Math.abs.name) && (ckAt (hs.getD 2 0) (.initialized "java/lang/Math") && ckAt (hs.getD 3 0) (.code Lib.Math.abs.name Lib.Math.abs.code 1 (some .int))))
    | _ => true
noncomputable def ckI (c j : Nat) : Bool := match rI c j with
  | none => true
  | some (v, h) => ckAt h (.constant (cN c) j v)
noncomputable def ckJ (c j : Nat) : Bool := match rJ c j with
  | none => true
  | some (v, h) => ckAt h (.constantLong (cN c) j v)
noncomputable def ckN (c j : Nat) : Bool := match rN c j with
  | none => true
  | some (ci, hs) => Nat.blt ci 14 && (ckAt (hs.getD 0 0) (.classLink (cN c) j (cN ci)) && (ckAt (hs.getD 1 0) (.instantiable (cN ci) (cF ci)) && ckAt (hs.getD 2 0) (.initialized (cN ci))))
noncomputable def ckK (k : Nat) : Bool := ckAt (mHint k) (.code (mN k) (mB k) (mL k) (mR k)) && decide (mInit k = true → mR k = none)
noncomputable def ckK2 (k : Nat) : Bool := decide ((mN k).cls = cN (mC k)) && (Jvm.plainName (mN k).cls && (decide ((mN k).cls ≠ "java/lang/invoke/MethodHandle" ∧ (mN k).cls ≠ "java/lang/invoke/VarHandle" ∧ (parseMethodDescriptor (mN k).desc).map (fun d => d.parameters.length) = some (mArgs k)) && decide (mInit k = true ↔ (mN k).name = "<init>")))
noncomputable def ckW (c : Nat) : Bool := (List.range (cF c)).all (fun f => ckAt (hW c f) (u_lay (cN c) (cT c) f) && decide (parseFieldDescriptor (cT c f).2.2.1 = some (cTy c f)))
set_option maxRecDepth 1000000 in
theorem okF_0 : (List.range 906).all (fun j => ckF 0 j) = true := by decide +kernel
set_option maxRecDepth 1000000 in
theorem okF_1 : (List.range 906).all (fun j => ckF 1 j) = true := by decide +kernel
set_option maxRecDepth 1000000 in
theorem okF_2 : (List.range 906).all (fun j => ckF 2 j) = true := by decide +kernel
set_option maxRecDepth 1000000 in
theorem okF_3 : (List.range 906).all (fun j => ckF 3 j) = true := by decide +kernel
set_option maxRecDepth 1000000 in
theorem okF_4 : (List.range 906).all (fun j => ckF 4 j) = true := by decide +kernel
set_option maxRecDepth 1000000 in
theorem okF_5 : (List.range 906).all (fun j => ckF 5 j) = true := by decide +kernel
set_option maxRecDepth 1000000 in
theorem okF_6 : (List.range 906).all (fun j => ckF 6 j) = true := by decide +kernel
set_option maxRecDepth 1000000 in
theorem okF_7 : (List.range 906).all (fun j => ckF 7 j) = true := by decide +kernel
set_option maxRecDepth 1000000 in
theorem okF_8 : (List.range 906).all (fun j => ckF 8 j) = true := by decide +kernel
set_option maxRecDepth 1000000 in
theorem okF_9 : (List.range 906).all (fun j => ckF 9 j) = true := by decide +kernel
set_option maxRecDepth 1000000 in
theorem okF_10 : (List.range 906).all (fun j => ckF 10 j) = true := by decide +kernel
set_option maxRecDepth 1000000 in
theorem okF_11 : (List.range 906).all (fun j => ckF 11 j) = true := by decide +kernel
set_option maxRecDepth 1000000 in
theorem okF_12 : (List.range 906).all (fun j => ckF 12 j) = true := by decide +kernel
set_option maxRecDepth 1000000 in
theorem okF_13 : (List.range 906).all (fun j => ckF 13 j) = true := by decide +kernel
set_option maxRecDepth 1000000 in
theorem okF_14 : (List.range 906).all (fun j => ckF 14 j) = true := by decide +kernel
set_option maxRecDepth 1000000 in
theorem okF_15 : (List.range 906).all (fun j => ckF 15 j) = true := by decide +kernel
set_option maxRecDepth 1000000 in
theorem okF_16 : (List.range 906).all (fun j => ckF 16 j) = true := by decide +kernel
theorem okF_ok (c j : Nat) : ckF c j = true := by
  by_cases hc : c < 17 ∧ j < 906
  · obtain ⟨h1, h2⟩ := hc
    have hj := List.mem_range.mpr h2
    rcases (show c = 0 ∨ c = 1 ∨ c = 2 ∨ c = 3 ∨ c = 4 ∨ c = 5 ∨ c = 6 ∨ c = 7 ∨ c = 8 ∨ c = 9 ∨ c = 10 ∨ c = 11 ∨ c = 12 ∨ c = 13 ∨ c = 14 ∨ c = 15 ∨ c = 16 by omega) with rfl | rfl | rfl | rfl | rfl | rfl | rfl | rfl | rfl | rfl | rfl | rfl | rfl | rfl | rfl | rfl | rfl
    · exact List.all_eq_true.mp okF_0 j hj
    · exact List.all_eq_true.mp okF_1 j hj
    · exact List.all_eq_true.mp okF_2 j hj
    · exact List.all_eq_true.mp okF_3 j hj
    · exact List.all_eq_true.mp okF_4 j hj
    · exact List.all_eq_true.mp okF_5 j hj
    · exact List.all_eq_true.mp okF_6 j hj
    · exact List.all_eq_true.mp okF_7 j hj
    · exact List.all_eq_true.mp okF_8 j hj
    · exact List.all_eq_true.mp okF_9 j hj
    · exact List.all_eq_true.mp okF_10 j hj
    · exact List.all_eq_true.mp okF_11 j hj
    · exact List.all_eq_true.mp okF_12 j hj
    · exact List.all_eq_true.mp okF_13 j hj
    · exact List.all_eq_true.mp okF_14 j hj
    · exact List.all_eq_true.mp okF_15 j hj
    · exact List.all_eq_true.mp okF_16 j hj
  · have h0 : rF c j = none := by
      unfold rF
      have : (Nat.blt c 17 && Nat.blt j 906) = false := by
        rw [Bool.and_eq_false_iff]
        rcases Nat.lt_or_ge c 17 with q | q
        · rcases Nat.lt_or_ge j 906 with z | z
          · exact absurd ⟨q, z⟩ hc
          · exact Or.inr (by rw [← Bool.not_eq_true]; exact fun h => absurd (Nat.le_of_ble_eq_true h) (by omega))
        · exact Or.inl (by rw [← Bool.not_eq_true]; exact fun h => absurd (Nat.le_of_ble_eq_true h) (by omega))
      rw [this]
      rfl
    unfold ckF
    rw [h0]
set_option maxRecDepth 1000000 in
theorem okM_0 : (List.range 1022).all (fun j => ckM 0 j) = true := by decide +kernel
set_option maxRecDepth 1000000 in
theorem okM_1 : (List.range 1022).all (fun j => ckM 1 j) = true := by decide +kernel
set_option maxRecDepth 1000000 in
theorem okM_2 : (List.range 1022).all (fun j => ckM 2 j) = true := by decide +kernel
set_option maxRecDepth 1000000 in
theorem okM_3 : (List.range 1022).all (fun j => ckM 3 j) = true := by decide +kernel
set_option maxRecDepth 1000000 in
theorem okM_4 : (List.range 1022).all (fun j => ckM 4 j) = true := by decide +kernel
set_option maxRecDepth 1000000 in
theorem okM_5 : (List.range 1022).all (fun j => ckM 5 j) = true := by decide +kernel
set_option maxRecDepth 1000000 in
theorem okM_6 : (List.range 1022).all (fun j => ckM 6 j) = true := by decide +kernel
set_option maxRecDepth 1000000 in
theorem okM_7 : (List.range 1022).all (fun j => ckM 7 j) = true := by decide +kernel
set_option maxRecDepth 1000000 in
theorem okM_8 : (List.range 1022).all (fun j => ckM 8 j) = true := by decide +kernel
set_option maxRecDepth 1000000 in
theorem okM_9 : (List.range 1022).all (fun j => ckM 9 j) = true := by decide +kernel
set_option maxRecDepth 1000000 in
theorem okM_10 : (List.range 1022).all (fun j => ckM 10 j) = true := by decide +kernel
set_option maxRecDepth 1000000 in
theorem okM_11 : (List.range 1022).all (fun j => ckM 11 j) = true := by decide +kernel
set_option maxRecDepth 1000000 in
theorem okM_12 : (List.range 1022).all (fun j => ckM 12 j) = true := by decide +kernel
set_option maxRecDepth 1000000 in
theorem okM_13 : (List.range 1022).all (fun j => ckM 13 j) = true := by decide +kernel
set_option maxRecDepth 1000000 in
theorem okM_14 : (List.range 1022).all (fun j => ckM 14 j) = true := by decide +kernel
set_option maxRecDepth 1000000 in
theorem okM_15 : (List.range 1022).all (fun j => ckM 15 j) = true := by decide +kernel
set_option maxRecDepth 1000000 in
theorem okM_16 : (List.range 1022).all (fun j => ckM 16 j) = true := by decide +kernel
theorem okM_ok (c j : Nat) : ckM c j = true := by
  by_cases hc : c < 17 ∧ j < 1022
  · obtain ⟨h1, h2⟩ := hc
    have hj := List.mem_range.mpr h2
    rcases (show c = 0 ∨ c = 1 ∨ c = 2 ∨ c = 3 ∨ c = 4 ∨ c = 5 ∨ c = 6 ∨ c = 7 ∨ c = 8 ∨ c = 9 ∨ c = 10 ∨ c = 11 ∨ c = 12 ∨ c = 13 ∨ c = 14 ∨ c = 15 ∨ c = 16 by omega) with rfl | rfl | rfl | rfl | rfl | rfl | rfl | rfl | rfl | rfl | rfl | rfl | rfl | rfl | rfl | rfl | rfl
    · exact List.all_eq_true.mp okM_0 j hj
    · exact List.all_eq_true.mp okM_1 j hj
    · exact List.all_eq_true.mp okM_2 j hj
    · exact List.all_eq_true.mp okM_3 j hj
    · exact List.all_eq_true.mp okM_4 j hj
    · exact List.all_eq_true.mp okM_5 j hj
    · exact List.all_eq_true.mp okM_6 j hj
    · exact List.all_eq_true.mp okM_7 j hj
    · exact List.all_eq_true.mp okM_8 j hj
    · exact List.all_eq_true.mp okM_9 j hj
    · exact List.all_eq_true.mp okM_10 j hj
    · exact List.all_eq_true.mp okM_11 j hj
    · exact List.all_eq_true.mp okM_12 j hj
    · exact List.all_eq_true.mp okM_13 j hj
    · exact List.all_eq_true.mp okM_14 j hj
    · exact List.all_eq_true.mp okM_15 j hj
    · exact List.all_eq_true.mp okM_16 j hj
  · have h0 : rM c j = none := by
      unfold rM
      have : (Nat.blt c 17 && Nat.blt j 1022) = false := by
        rw [Bool.and_eq_false_iff]
        rcases Nat.lt_or_ge c 17 with q | q
        · rcases Nat.lt_or_ge j 1022 with z | z
          · exact absurd ⟨q, z⟩ hc
          · exact Or.inr (by rw [← Bool.not_eq_true]; exact fun h => absurd (Nat.le_of_ble_eq_true h) (by omega))
        · exact Or.inl (by rw [← Bool.not_eq_true]; exact fun h => absurd (Nat.le_of_ble_eq_true h) (by omega))
      rw [this]
      rfl
    unfold ckM
    rw [h0]
set_option maxRecDepth 1000000 in
theorem okI_0 : (List.range 1021).all (fun j => ckI 0 j) = true := by decide +kernel
set_option maxRecDepth 1000000 in
theorem okI_1 : (List.range 1021).all (fun j => ckI 1 j) = true := by decide +kernel
set_option maxRecDepth 1000000 in
theorem okI_2 : (List.range 1021).all (fun j => ckI 2 j) = true := by decide +kernel
set_option maxRecDepth 1000000 in
theorem okI_3 : (List.range 1021).all (fun j => ckI 3 j) = true := by decide +kernel
set_option maxRecDepth 1000000 in
theorem okI_4 : (List.range 1021).all (fun j => ckI 4 j) = true := by decide +kernel
set_option maxRecDepth 1000000 in
theorem okI_5 : (List.range 1021).all (fun j => ckI 5 j) = true := by decide +kernel
set_option maxRecDepth 1000000 in
theorem okI_6 : (List.range 1021).all (fun j => ckI 6 j) = true := by decide +kernel
set_option maxRecDepth 1000000 in
theorem okI_7 : (List.range 1021).all (fun j => ckI 7 j) = true := by decide +kernel
set_option maxRecDepth 1000000 in
theorem okI_8 : (List.range 1021).all (fun j => ckI 8 j) = true := by decide +kernel
set_option maxRecDepth 1000000 in
theorem okI_9 : (List.range 1021).all (fun j => ckI 9 j) = true := by decide +kernel
set_option maxRecDepth 1000000 in
theorem okI_10 : (List.range 1021).all (fun j => ckI 10 j) = true := by decide +kernel
set_option maxRecDepth 1000000 in
theorem okI_11 : (List.range 1021).all (fun j => ckI 11 j) = true := by decide +kernel
set_option maxRecDepth 1000000 in
theorem okI_12 : (List.range 1021).all (fun j => ckI 12 j) = true := by decide +kernel
set_option maxRecDepth 1000000 in
theorem okI_13 : (List.range 1021).all (fun j => ckI 13 j) = true := by decide +kernel
set_option maxRecDepth 1000000 in
theorem okI_14 : (List.range 1021).all (fun j => ckI 14 j) = true := by decide +kernel
set_option maxRecDepth 1000000 in
theorem okI_15 : (List.range 1021).all (fun j => ckI 15 j) = true := by decide +kernel
set_option maxRecDepth 1000000 in
theorem okI_16 : (List.range 1021).all (fun j => ckI 16 j) = true := by decide +kernel
theorem okI_ok (c j : Nat) : ckI c j = true := by
  by_cases hc : c < 17 ∧ j < 1021
  · obtain ⟨h1, h2⟩ := hc
    have hj := List.mem_range.mpr h2
    rcases (show c = 0 ∨ c = 1 ∨ c = 2 ∨ c = 3 ∨ c = 4 ∨ c = 5 ∨ c = 6 ∨ c = 7 ∨ c = 8 ∨ c = 9 ∨ c = 10 ∨ c = 11 ∨ c = 12 ∨ c = 13 ∨ c = 14 ∨ c = 15 ∨ c = 16 by omega) with rfl | rfl | rfl | rfl | rfl | rfl | rfl | rfl | rfl | rfl | rfl | rfl | rfl | rfl | rfl | rfl | rfl
    · exact List.all_eq_true.mp okI_0 j hj
    · exact List.all_eq_true.mp okI_1 j hj
    · exact List.all_eq_true.mp okI_2 j hj
    · exact List.all_eq_true.mp okI_3 j hj
    · exact List.all_eq_true.mp okI_4 j hj
    · exact List.all_eq_true.mp okI_5 j hj
    · exact List.all_eq_true.mp okI_6 j hj
    · exact List.all_eq_true.mp okI_7 j hj
    · exact List.all_eq_true.mp okI_8 j hj
    · exact List.all_eq_true.mp okI_9 j hj
    · exact List.all_eq_true.mp okI_10 j hj
    · exact List.all_eq_true.mp okI_11 j hj
    · exact List.all_eq_true.mp okI_12 j hj
    · exact List.all_eq_true.mp okI_13 j hj
    · exact List.all_eq_true.mp okI_14 j hj
    · exact List.all_eq_true.mp okI_15 j hj
    · exact List.all_eq_true.mp okI_16 j hj
  · have h0 : rI c j = none := by
      unfold rI
      have : (Nat.blt c 17 && Nat.blt j 1021) = false := by
        rw [Bool.and_eq_false_iff]
        rcases Nat.lt_or_ge c 17 with q | q
        · rcases Nat.lt_or_ge j 1021 with z | z
          · exact absurd ⟨q, z⟩ hc
          · exact Or.inr (by rw [← Bool.not_eq_true]; exact fun h => absurd (Nat.le_of_ble_eq_true h) (by omega))
        · exact Or.inl (by rw [← Bool.not_eq_true]; exact fun h => absurd (Nat.le_of_ble_eq_true h) (by omega))
      rw [this]
      rfl
    unfold ckI
    rw [h0]
set_option maxRecDepth 1000000 in
theorem okJ_0 : (List.range 866).all (fun j => ckJ 0 j) = true := by decide +kernel
set_option maxRecDepth 1000000 in
theorem okJ_1 : (List.range 866).all (fun j => ckJ 1 j) = true := by decide +kernel
set_option maxRecDepth 1000000 in
theorem okJ_2 : (List.range 866).all (fun j => ckJ 2 j) = true := by decide +kernel
set_option maxRecDepth 1000000 in
theorem okJ_3 : (List.range 866).all (fun j => ckJ 3 j) = true := by decide +kernel
set_option maxRecDepth 1000000 in
theorem okJ_4 : (List.range 866).all (fun j => ckJ 4 j) = true := by decide +kernel
set_option maxRecDepth 1000000 in
theorem okJ_5 : (List.range 866).all (fun j => ckJ 5 j) = true := by decide +kernel
set_option maxRecDepth 1000000 in
theorem okJ_6 : (List.range 866).all (fun j => ckJ 6 j) = true := by decide +kernel
set_option maxRecDepth 1000000 in
theorem okJ_7 : (List.range 866).all (fun j => ckJ 7 j) = true := by decide +kernel
set_option maxRecDepth 1000000 in
theorem okJ_8 : (List.range 866).all (fun j => ckJ 8 j) = true := by decide +kernel
set_option maxRecDepth 1000000 in
theorem okJ_9 : (List.range 866).all (fun j => ckJ 9 j) = true := by decide +kernel
set_option maxRecDepth 1000000 in
theorem okJ_10 : (List.range 866).all (fun j => ckJ 10 j) = true := by decide +kernel
set_option maxRecDepth 1000000 in
theorem okJ_11 : (List.range 866).all (fun j => ckJ 11 j) = true := by decide +kernel
set_option maxRecDepth 1000000 in
theorem okJ_12 : (List.range 866).all (fun j => ckJ 12 j) = true := by decide +kernel
set_option maxRecDepth 1000000 in
theorem okJ_13 : (List.range 866).all (fun j => ckJ 13 j) = true := by decide +kernel
set_option maxRecDepth 1000000 in
theorem okJ_14 : (List.range 866).all (fun j => ckJ 14 j) = true := by decide +kernel
set_option maxRecDepth 1000000 in
theorem okJ_15 : (List.range 866).all (fun j => ckJ 15 j) = true := by decide +kernel
set_option maxRecDepth 1000000 in
theorem okJ_16 : (List.range 866).all (fun j => ckJ 16 j) = true := by decide +kernel
theorem okJ_ok (c j : Nat) : ckJ c j = true := by
  by_cases hc : c < 17 ∧ j < 866
  · obtain ⟨h1, h2⟩ := hc
    have hj := List.mem_range.mpr h2
    rcases (show c = 0 ∨ c = 1 ∨ c = 2 ∨ c = 3 ∨ c = 4 ∨ c = 5 ∨ c = 6 ∨ c = 7 ∨ c = 8 ∨ c = 9 ∨ c = 10 ∨ c = 11 ∨ c = 12 ∨ c = 13 ∨ c = 14 ∨ c = 15 ∨ c = 16 by omega) with rfl | rfl | rfl | rfl | rfl | rfl | rfl | rfl | rfl | rfl | rfl | rfl | rfl | rfl | rfl | rfl | rfl
    · exact List.all_eq_true.mp okJ_0 j hj
    · exact List.all_eq_true.mp okJ_1 j hj
    · exact List.all_eq_true.mp okJ_2 j hj
    · exact List.all_eq_true.mp okJ_3 j hj
    · exact List.all_eq_true.mp okJ_4 j hj
    · exact List.all_eq_true.mp okJ_5 j hj
    · exact List.all_eq_true.mp okJ_6 j hj
    · exact List.all_eq_true.mp okJ_7 j hj
    · exact List.all_eq_true.mp okJ_8 j hj
    · exact List.all_eq_true.mp okJ_9 j hj
    · exact List.all_eq_true.mp okJ_10 j hj
    · exact List.all_eq_true.mp okJ_11 j hj
    · exact List.all_eq_true.mp okJ_12 j hj
    · exact List.all_eq_true.mp okJ_13 j hj
    · exact List.all_eq_true.mp okJ_14 j hj
    · exact List.all_eq_true.mp okJ_15 j hj
    · exact List.all_eq_true.mp okJ_16 j hj
  · have h0 : rJ c j = none := by
      unfold rJ
      have : (Nat.blt c 17 && Nat.blt j 866) = false := by
        rw [Bool.and_eq_false_iff]
        rcases Nat.lt_or_ge c 17 with q | q
        · rcases Nat.lt_or_ge j 866 with z | z
          · exact absurd ⟨q, z⟩ hc
          · exact Or.inr (by rw [← Bool.not_eq_true]; exact fun h => absurd (Nat.le_of_ble_eq_true h) (by omega))
        · exact Or.inl (by rw [← Bool.not_eq_true]; exact fun h => absurd (Nat.le_of_ble_eq_true h) (by omega))
      rw [this]
      rfl
    unfold ckJ
    rw [h0]
set_option maxRecDepth 1000000 in
theorem okN_0 : (List.range 85).all (fun j => ckN 0 j) = true := by decide +kernel
set_option maxRecDepth 1000000 in
theorem okN_1 : (List.range 85).all (fun j => ckN 1 j) = true := by decide +kernel
set_option maxRecDepth 1000000 in
theorem okN_2 : (List.range 85).all (fun j => ckN 2 j) = true := by decide +kernel
set_option maxRecDepth 1000000 in
theorem okN_3 : (List.range 85).all (fun j => ckN 3 j) = true := by decide +kernel
set_option maxRecDepth 1000000 in
theorem okN_4 : (List.range 85).all (fun j => ckN 4 j) = true := by decide +kernel
set_option maxRecDepth 1000000 in
theorem okN_5 : (List.range 85).all (fun j => ckN 5 j) = true := by decide +kernel
set_option maxRecDepth 1000000 in
theorem okN_6 : (List.range 85).all (fun j => ckN 6 j) = true := by decide +kernel
set_option maxRecDepth 1000000 in
theorem okN_7 : (List.range 85).all (fun j => ckN 7 j) = true := by decide +kernel
set_option maxRecDepth 1000000 in
theorem okN_8 : (List.range 85).all (fun j => ckN 8 j) = true := by decide +kernel
set_option maxRecDepth 1000000 in
theorem okN_9 : (List.range 85).all (fun j => ckN 9 j) = true := by decide +kernel
set_option maxRecDepth 1000000 in
theorem okN_10 : (List.range 85).all (fun j => ckN 10 j) = true := by decide +kernel
set_option maxRecDepth 1000000 in
theorem okN_11 : (List.range 85).all (fun j => ckN 11 j) = true := by decide +kernel
set_option maxRecDepth 1000000 in
theorem okN_12 : (List.range 85).all (fun j => ckN 12 j) = true := by decide +kernel
set_option maxRecDepth 1000000 in
theorem okN_13 : (List.range 85).all (fun j => ckN 13 j) = true := by decide +kernel
set_option maxRecDepth 1000000 in
theorem okN_14 : (List.range 85).all (fun j => ckN 14 j) = true := by decide +kernel
set_option maxRecDepth 1000000 in
theorem okN_15 : (List.range 85).all (fun j => ckN 15 j) = true := by decide +kernel
set_option maxRecDepth 1000000 in
theorem okN_16 : (List.range 85).all (fun j => ckN 16 j) = true := by decide +kernel
theorem okN_ok (c j : Nat) : ckN c j = true := by
  by_cases hc : c < 17 ∧ j < 85
  · obtain ⟨h1, h2⟩ := hc
    have hj := List.mem_range.mpr h2
    rcases (show c = 0 ∨ c = 1 ∨ c = 2 ∨ c = 3 ∨ c = 4 ∨ c = 5 ∨ c = 6 ∨ c = 7 ∨ c = 8 ∨ c = 9 ∨ c = 10 ∨ c = 11 ∨ c = 12 ∨ c = 13 ∨ c = 14 ∨ c = 15 ∨ c = 16 by omega) with rfl | rfl | rfl | rfl | rfl | rfl | rfl | rfl | rfl | rfl | rfl | rfl | rfl | rfl | rfl | rfl | rfl
    · exact List.all_eq_true.mp okN_0 j hj
    · exact List.all_eq_true.mp okN_1 j hj
    · exact List.all_eq_true.mp okN_2 j hj
    · exact List.all_eq_true.mp okN_3 j hj
    · exact List.all_eq_true.mp okN_4 j hj
    · exact List.all_eq_true.mp okN_5 j hj
    · exact List.all_eq_true.mp okN_6 j hj
    · exact List.all_eq_true.mp okN_7 j hj
    · exact List.all_eq_true.mp okN_8 j hj
    · exact List.all_eq_true.mp okN_9 j hj
    · exact List.all_eq_true.mp okN_10 j hj
    · exact List.all_eq_true.mp okN_11 j hj
    · exact List.all_eq_true.mp okN_12 j hj
    · exact List.all_eq_true.mp okN_13 j hj
    · exact List.all_eq_true.mp okN_14 j hj
    · exact List.all_eq_true.mp okN_15 j hj
    · exact List.all_eq_true.mp okN_16 j hj
  · have h0 : rN c j = none := by
      unfold rN
      have : (Nat.blt c 17 && Nat.blt j 85) = false := by
        rw [Bool.and_eq_false_iff]
        rcases Nat.lt_or_ge c 17 with q | q
        · rcases Nat.lt_or_ge j 85 with z | z
          · exact absurd ⟨q, z⟩ hc
          · exact Or.inr (by rw [← Bool.not_eq_true]; exact fun h => absurd (Nat.le_of_ble_eq_true h) (by omega))
        · exact Or.inl (by rw [← Bool.not_eq_true]; exact fun h => absurd (Nat.le_of_ble_eq_true h) (by omega))
      rw [this]
      rfl
    unfold ckN
    rw [h0]
set_option maxRecDepth 1000000 in
theorem okW_a : (List.range 14).all (fun c => ckW c) = true := by decide +kernel
set_option maxRecDepth 1000000 in
theorem okK2_a : (List.range 407).all (fun k => ckK2 k) = true := by decide +kernel
