/-! The requests that are taken -/
theorem rPush_sF (p : Int32) (d : vmD) (f : Nat) (v : Int32) (hf : ¬ f = 75) : rPush p (sF d 42 f v) = sF (rPush p d) 42 f v := by
  unfold rPush rMm
  rw [gF_sF, u1f_ne _ _ (fun e => hf e.symm), sF_comm d 42 v _ hf]
  rfl
theorem req_hard {c r : vmD} (h : Rel c r) (hh : ¬ gF c 38 7 = 0) : ∃ c2 r2, (∀ Q : vmD → Prop, Q c2 → Machine_takeRequest_48 c Q) ∧ (∀ Q : Int32 → vmD → Prop, Q 1 r2 → (if (gF r 42 82) = 0 then (bnd (sF r 42 83 0) fun d_11 => bnd (sF d_11 42 77 0) fun d_12 => bnd (sF d_12 42 78 0) fun d_13 => MO_pushTwo (gF d_13 42 76) d_13 fun d_14 => if (gF d_14 42 79) = 0 then (MO_takeRequest_182 ((gF d_14 42 84) &&& 56) d_14 Q) else (if (gF d_14 42 79) = 1 then (MO_takeRequest_182 56 d_14 Q) else (MO_wide (((256 : Int32) * (gF d_14 42 72)) + (gF d_14 42 84)) d_14 fun r_19 d_18 => MO_takeRequest_182 r_19 d_18 Q))) else (bnd (sF r 42 82 0) fun d_20 => bnd (sF d_20 42 77 0) fun d_21 => MO_pushTwo (gF d_21 42 76) d_21 fun d_22 => bnd (sF d_22 42 76 102) fun d_23 => Q 1 d_23))) ∧ Rel c2 r2 := by
  have hw := h.2.2.2.2.2.2.2.2.2.1
  have h2 := ((((h.push (gF r 42 76)).sg14 (v := 0) (Or.inl rfl)).hw0).sg11 (v := 102) ⟨102, by omega, rfl⟩)
  refine ⟨_, _, fun Q hQ => ?_, fun Q hQ => ?_, h2⟩
  · unfold Machine_takeRequest_48
    simp only [bnd_iff, push_eq]
    rw [h.gt11.1]
    have e7 : gF (sA (cPush (gF r 42 76) c) 39 14 0) 38 7 = gF c 38 7 := rfl
    rw [e7, if_neg hh]
    exact hQ
  · rw [← hw, if_neg hh]
    simp only [bnd_iff, pushTwo_eq, rPush_sF _ _ _ _ (show ¬ 82 = 75 by decide), rPush_sF _ _ _ _ (show ¬ 77 = 75 by decide)]
    have e76 : gF (sF (sF r 42 82 0) 42 77 0) 42 76 = gF r 42 76 := by simp only [gA_sA, gA_sA_ne, gA_sF, gA_sG, gA_sL, gF_sA, gF_sF, gF_sF_ne, gF_sG, gF_sL, gG_sA, gG_sF, gG_sL, gG_sGe, gG_sG_ne, gL_sA, gL_sF, gL_sG, gL_sLe, gL_sL_ne, u1f_eq, u1f_ne, bnd_iff, not_false_eq_true, Nat.reduceEqDiff]
    rw [e76, sF_comm _ 42 (f := 82) (g := 77) _ _ (by decide)]
    exact hQ
theorem req_plain {c r : vmD} (h : Rel c r) (hh : gF c 38 7 = 0) (hp : gF c 38 6 = 1) : ∃ c2 r2, (∀ Q : vmD → Prop, Q c2 → Machine_takeRequest_48 c Q) ∧ (∀ Q : Int32 → vmD → Prop, Q 1 r2 → (if (gF r 42 82) = 0 then (bnd (sF r 42 83 0) fun d_11 => bnd (sF d_11 42 77 0) fun d_12 => bnd (sF d_12 42 78 0) fun d_13 => MO_pushTwo (gF d_13 42 76) d_13 fun d_14 => if (gF d_14 42 79) = 0 then (MO_takeRequest_182 ((gF d_14 42 84) &&& 56) d_14 Q) else (if (gF d_14 42 79) = 1 then (MO_takeRequest_182 56 d_14 Q) else (MO_wide (((256 : Int32) * (gF d_14 42 72)) + (gF d_14 42 84)) d_14 fun r_19 d_18 => MO_takeRequest_182 r_19 d_18 Q))) else (bnd (sF r 42 82 0) fun d_20 => bnd (sF d_20 42 77 0) fun d_21 => MO_pushTwo (gF d_21 42 76) d_21 fun d_22 => bnd (sF d_22 42 76 102) fun d_23 => Q 1 d_23))) ∧ Rel c2 r2 := by
  have hw := h.2.2.2.2.2.2.2.2.2.1
  obtain ⟨p8, po⟩ := h.2.2.2.2.2.2.2.2.2.2.2.2.2.2 hp
  have h1 := (((h.push (gF r 42 76)).sg14 (v := 0) (Or.inl rfl)).pw0).sg15 (v := 0) (Or.inl rfl)
  have m16 : gA (sA (sF (sA (cPush (gF r 42 76) c) 39 14 0) 38 6 0) 39 15 0) 39 16 = gF r 42 79 := by
    rw [gA_sA, u1f_ne _ _ (by decide), gA_sF, gA_sA, u1f_ne _ _ (by decide)]
    exact (h.push (gF r 42 76)).gt16.1
  have m12 : gA (sA (sF (sA (cPush (gF r 42 76) c) 39 14 0) 38 6 0) 39 15 0) 39 12 = gF r 42 72 := by
    rw [gA_sA, u1f_ne _ _ (by decide), gA_sF, gA_sA, u1f_ne _ _ (by decide)]
    exact (h.push (gF r 42 76)).gt12.1
  have m8 : gF (sA (sF (sA (cPush (gF r 42 76) c) 39 14 0) 38 6 0) 39 15 0) 38 8 = gF r 42 84 := by
    rw [gF_sA, gF_sF, u1f_ne _ _ (by decide), gF_sA]
    exact p8
  have e76 : gF (sF (sF (sF r 42 83 0) 42 77 0) 42 78 0) 42 76 = gF r 42 76 := by simp only [gA_sA, gA_sA_ne, gA_sF, gA_sG, gA_sL, gF_sA, gF_sF, gF_sF_ne, gF_sG, gF_sL, gG_sA, gG_sF, gG_sL, gG_sGe, gG_sG_ne, gL_sA, gL_sF, gL_sG, gL_sLe, gL_sL_ne, u1f_eq, u1f_ne, bnd_iff, not_false_eq_true, Nat.reduceEqDiff]
  have est : rPush (gF r 42 76) (sF (sF (sF r 42 83 0) 42 77 0) 42 78 0) = sF (sF (sF (rPush (gF r 42 76) r) 42 77 0) 42 83 0) 42 78 0 := by
    rw [rPush_sF _ _ _ _ (by decide), rPush_sF _ _ _ _ (by decide), rPush_sF _ _ _ _ (by decide), sF_comm _ 42 (f := 83) (g := 77) _ _ (by decide)]
  have n79 : gF (sF (sF (sF (rPush (gF r 42 76) r) 42 77 0) 42 83 0) 42 78 0) 42 79 = gF r 42 79 := by
    simp only [gA_sA, gA_sA_ne, gA_sF, gA_sG, gA_sL, gF_sA, gF_sF, gF_sF_ne, gF_sG, gF_sL, gG_sA, gG_sF, gG_sL, gG_sGe, gG_sG_ne, gL_sA, gL_sF, gL_sG, gL_sLe, gL_sL_ne, u1f_eq, u1f_ne, bnd_iff, not_false_eq_true, Nat.reduceEqDiff]
    show gF (sF r 42 75 ((gF r 42 75 - 2) &&& 65535)) 42 79 = _
    simp only [gA_sA, gA_sA_ne, gA_sF, gA_sG, gA_sL, gF_sA, gF_sF, gF_sF_ne, gF_sG, gF_sL, gG_sA, gG_sF, gG_sL, gG_sGe, gG_sG_ne, gL_sA, gL_sF, gL_sG, gL_sLe, gL_sL_ne, u1f_eq, u1f_ne, bnd_iff, not_false_eq_true, Nat.reduceEqDiff]
  have n84 : gF (sF (sF (sF (rPush (gF r 42 76) r) 42 77 0) 42 83 0) 42 78 0) 42 84 = gF r 42 84 := by
    simp only [gA_sA, gA_sA_ne, gA_sF, gA_sG, gA_sL, gF_sA, gF_sF, gF_sF_ne, gF_sG, gF_sL, gG_sA, gG_sF, gG_sL, gG_sGe, gG_sG_ne, gL_sA, gL_sF, gL_sG, gL_sLe, gL_sL_ne, u1f_eq, u1f_ne, bnd_iff, not_false_eq_true, Nat.reduceEqDiff]
    show gF (sF r 42 75 ((gF r 42 75 - 2) &&& 65535)) 42 84 = _
    simp only [gA_sA, gA_sA_ne, gA_sF, gA_sG, gA_sL, gF_sA, gF_sF, gF_sF_ne, gF_sG, gF_sL, gG_sA, gG_sF, gG_sL, gG_sGe, gG_sG_ne, gL_sA, gL_sF, gL_sG, gL_sLe, gL_sL_ne, u1f_eq, u1f_ne, bnd_iff, not_false_eq_true, Nat.reduceEqDiff]
  have n72 : gF (sF (sF (sF (rPush (gF r 42 76) r) 42 77 0) 42 83 0) 42 78 0) 42 72 = gF r 42 72 := by
    simp only [gA_sA, gA_sA_ne, gA_sF, gA_sG, gA_sL, gF_sA, gF_sF, gF_sF_ne, gF_sG, gF_sL, gG_sA, gG_sF, gG_sL, gG_sGe, gG_sG_ne, gL_sA, gL_sF, gL_sG, gL_sLe, gL_sL_ne, u1f_eq, u1f_ne, bnd_iff, not_false_eq_true, Nat.reduceEqDiff]
    show gF (sF r 42 75 ((gF r 42 75 - 2) &&& 65535)) 42 72 = _
    simp only [gA_sA, gA_sA_ne, gA_sF, gA_sG, gA_sL, gF_sA, gF_sF, gF_sF_ne, gF_sG, gF_sL, gG_sA, gG_sF, gG_sL, gG_sGe, gG_sG_ne, gL_sA, gL_sF, gL_sG, gL_sLe, gL_sL_ne, u1f_eq, u1f_ne, bnd_iff, not_false_eq_true, Nat.reduceEqDiff]
  have key : ∀ t : Int32, wrd t → (∀ Q : vmD → Prop, Q (sA (sA (sF (sA (cPush (gF r 42 76) c) 39 14 0) 38 6 0) 39 15 0) 39 11 t) → Machine_takeRequest_48 c Q) → (∀ Q : Int32 → vmD → Prop, Q 1 (sF (sF (sF (sF (rPush (gF r 42 76) r) 42 77 0) 42 83 0) 42 78 0) 42 76 t) → (if (gF r 42 82) = 0 then (bnd (sF r 42 83 0) fun d_11 => bnd (sF d_11 42 77 0) fun d_12 => bnd (sF d_12 42 78 0) fun d_13 => MO_pushTwo (gF d_13 42 76) d_13 fun d_14 => if (gF d_14 42 79) = 0 then (MO_takeRequest_182 ((gF d_14 42 84) &&& 56) d_14 Q) else (if (gF d_14 42 79) = 1 then (MO_takeRequest_182 56 d_14 Q) else (MO_wide (((256 : Int32) * (gF d_14 42 72)) + (gF d_14 42 84)) d_14 fun r_19 d_18 => MO_takeRequest_182 r_19 d_18 Q))) else (bnd (sF r 42 82 0) fun d_20 => bnd (sF d_20 42 77 0) fun d_21 => MO_pushTwo (gF d_21 42 76) d_21 fun d_22 => bnd (sF d_22 42 76 102) fun d_23 => Q 1 d_23))) → _ := fun t ht a b => (⟨_, _, a, b, h1.sg11 ht⟩ : ∃ c2 r2, (∀ Q : vmD → Prop, Q c2 → Machine_takeRequest_48 c Q) ∧ (∀ Q : Int32 → vmD → Prop, Q 1 r2 → (if (gF r 42 82) = 0 then (bnd (sF r 42 83 0) fun d_11 => bnd (sF d_11 42 77 0) fun d_12 => bnd (sF d_12 42 78 0) fun d_13 => MO_pushTwo (gF d_13 42 76) d_13 fun d_14 => if (gF d_14 42 79) = 0 then (MO_takeRequest_182 ((gF d_14 42 84) &&& 56) d_14 Q) else (if (gF d_14 42 79) = 1 then (MO_takeRequest_182 56 d_14 Q) else (MO_wide (((256 : Int32) * (gF d_14 42 72)) + (gF d_14 42 84)) d_14 fun r_19 d_18 => MO_takeRequest_182 r_19 d_18 Q))) else (bnd (sF r 42 82 0) fun d_20 => bnd (sF d_20 42 77 0) fun d_21 => MO_pushTwo (gF d_21 42 76) d_21 fun d_22 => bnd (sF d_22 42 76 102) fun d_23 => Q 1 d_23))) ∧ Rel c2 r2)
  have e7 : gF (sA (cPush (gF r 42 76) c) 39 14 0) 38 7 = gF c 38 7 := rfl
  by_cases q0 : gF r 42 79 = 0
  · refine key (gF r 42 84 &&& 56) (oct_andl _ (p8 ▸ po)).wrd (fun Q hQ => ?_) (fun Q hQ => ?_)
    · unfold Machine_takeRequest_48
      simp only [bnd_iff, push_eq]
      rw [h.gt11.1, e7, if_pos hh, m16, if_pos q0, m8]
      exact hQ
    · rw [← hw, if_pos hh]
      simp only [bnd_iff, pushTwo_eq, MO_takeRequest_182]
      rw [e76, est, n79, if_pos q0, n84]
      exact hQ
  · by_cases q1 : gF r 42 79 = 1
    · refine key 56 ⟨56, by omega, rfl⟩ (fun Q hQ => ?_) (fun Q hQ => ?_)
      · unfold Machine_takeRequest_48
        simp only [bnd_iff, push_eq]
        rw [h.gt11.1, e7, if_pos hh, m16, if_neg q0, if_pos q1]
        exact hQ
      · rw [← hw, if_pos hh]
        simp only [bnd_iff, pushTwo_eq, MO_takeRequest_182]
        rw [e76, est, n79, if_neg q0, if_pos q1]
        exact hQ
    · refine key (rw2 (sF (sF (sF (rPush (gF r 42 76) r) 42 77 0) 42 83 0) 42 78 0) (((256 : Int32) * gF r 42 72) + gF r 42 84)) (rw_wrd h1.2.1 _) (fun Q hQ => ?_) (fun Q hQ => ?_)
      · unfold Machine_takeRequest_48
        simp only [bnd_iff, push_eq, wat_eq]
        rw [h.gt11.1, e7, if_pos hh, m16, if_neg q0, if_neg q1, m12, m8, mw_rw h1.2.1]
        exact hQ
      · rw [← hw, if_pos hh]
        simp only [bnd_iff, pushTwo_eq, MO_takeRequest_182, wide_eq]
        rw [e76, est, n79, if_neg q0, if_neg q1, n72, n84]
        exact hQ
