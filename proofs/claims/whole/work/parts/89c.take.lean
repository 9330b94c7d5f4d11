/-! The requests that are taken: from their beginning -/
def x13 (n v : Int32) : Int32 := (v &&& 128) ||| ((v + n) &&& 127)
theorem x13_o (n v : Int32) : oct (x13 n v) := oct_or (oct_andr _ (show oct 128 from oct_lit (n := 128) (by omega))) (oct_andr _ (show oct 127 from oct_lit (n := 127) (by omega)))
theorem ref0_eq (c : vmD) (Q : vmD → Prop) : Machine_refresh 0 c Q = Q (sA c 39 13 (x13 1 (gA c 39 13))) := by
  unfold Machine_refresh Machine_refresh_33 Machine_refresh_63
  rw [if_neg (by decide), if_neg (by decide), if_neg (by decide), if_neg (by decide)]
  refine (propext bnd_iff).trans ?_
  rw [if_pos rfl, tA (by decide)]
  exact propext bnd_iff
theorem Rel.fresh {c r : vmD} (h : Rel c r) (n : Int32) : Rel (sF (sA c 39 13 (x13 n (gA c 39 13))) 38 9 0) (sF (sF r 42 73 (x13 n (gF r 42 73))) 42 85 0) := by
  rw [h.gt13.1]
  exact (h.sg13 (x13_o n _)).je (Or.inl rfl)
theorem req_any {c r : vmD} (h : Rel c r) (hq : ¬ gF c 38 7 = 0 ∨ gF c 38 6 = 1) : ∃ c2 r2, (∀ Q : vmD → Prop, Q c2 → Machine_takeRequest_48 c Q) ∧ (∀ Q : Int32 → vmD → Prop, Q 1 r2 → (if (gF r 42 82) = 0 then (bnd (sF r 42 83 0) fun d_11 => bnd (sF d_11 42 77 0) fun d_12 => bnd (sF d_12 42 78 0) fun d_13 => MO_pushTwo (gF d_13 42 76) d_13 fun d_14 => if (gF d_14 42 79) = 0 then (MO_takeRequest_182 ((gF d_14 42 84) &&& 56) d_14 Q) else (if (gF d_14 42 79) = 1 then (MO_takeRequest_182 56 d_14 Q) else (MO_wide (((256 : Int32) * (gF d_14 42 72)) + (gF d_14 42 84)) d_14 fun r_19 d_18 => MO_takeRequest_182 r_19 d_18 Q))) else (bnd (sF r 42 82 0) fun d_20 => bnd (sF d_20 42 77 0) fun d_21 => MO_pushTwo (gF d_21 42 76) d_21 fun d_22 => bnd (sF d_22 42 76 102) fun d_23 => Q 1 d_23))) ∧ Rel c2 r2 := by
  by_cases hh : gF c 38 7 = 0
  · exact req_plain h hh (by
      rcases hq with e | e
      · exact absurd hh e
      · exact e)
  · exact req_hard h hh
theorem take_ok {c r : vmD} (h : Rel c r) (hq : ¬ gF c 38 7 = 0 ∨ gF c 38 6 = 1) : ∃ c2 r2, (∀ Q : vmD → Prop, Q c2 → Machine_takeRequest c Q) ∧ (∀ Q : Int32 → vmD → Prop, Q 1 r2 → MO_takeRequest_41 r Q) ∧ Rel c2 r2 := by
  have h2 := h.fresh 1
  obtain ⟨j, hj, ej⟩ := h.gt11.2
  have hix : ixOk (gF r 42 76) 65536 := by
    rw [ej]
    exact nI_in hj (by omega)
  have erb : gA r 55 (gF r 42 76).toNatClampNeg = rb r (gF r 42 76) := by
    unfold rb
    rw [h.gt11.2.and]
  have p11 : gA (sF (sA c 39 13 (x13 1 (gA c 39 13))) 38 9 0) 39 11 = gF r 42 76 := by
    rw [gA_sF, gA_sA, u1f_ne _ _ (by decide)]
    exact h.gt11.1
  have hmb : mb (sF (sA c 39 13 (x13 1 (gA c 39 13))) 38 9 0) (gF r 42 76) = rb r (gF r 42 76) := by
    rw [mb_rb h2.2.1]
    rfl
  by_cases e : rb r (gF r 42 76) = 118
  · have h3 := h2.sg11 (wrd_and (gF r 42 76 + 1))
    have est : sF (sF (sF r 42 73 (x13 1 (gF r 42 73))) 42 85 0) 42 76 ((gF r 42 76 + 1) &&& 65535) = sF (sF (sF r 42 76 ((gF r 42 76 + 1) &&& 65535)) 42 73 (x13 1 (gF r 42 73))) 42 85 0 := by
      rw [sF_comm _ 42 (f := 85) (g := 76) _ _ (by decide), sF_comm _ 42 (f := 73) (g := 76) _ _ (by decide)]
    rw [est] at h3
    obtain ⟨c2, r2, e1, e2, h4⟩ := req_any h3 hq
    refine ⟨c2, r2, fun Q hQ => ?_, fun Q hQ => ?_, h4⟩
    · unfold Machine_takeRequest
      rw [ref0_eq]
      simp only [bnd_iff, mat_eq]
      rw [p11, hmb, if_pos e]
      exact e1 Q hQ
    · unfold MO_takeRequest_41
      rw [tA hix, erb]
      simp only [bnd_iff]
      rw [if_pos e]
      unfold MO_takeRequest_68
      rw [goOn_eq]
      have e73 : gF (sF r 42 76 ((gF r 42 76 + 1) &&& 65535)) 42 73 = gF r 42 73 := by rw [gF_sF, u1f_ne _ _ (by decide)]
      rw [e73]
      have := e2 Q hQ
      simp only [bnd_iff] at this ⊢
      exact this
  · obtain ⟨c2, r2, e1, e2, h4⟩ := req_any h2 hq
    refine ⟨c2, r2, fun Q hQ => ?_, fun Q hQ => ?_, h4⟩
    · unfold Machine_takeRequest
      rw [ref0_eq]
      simp only [bnd_iff, mat_eq]
      rw [p11, hmb, if_neg e]
      exact e1 Q hQ
    · unfold MO_takeRequest_41
      rw [tA hix, erb]
      simp only [bnd_iff]
      rw [if_neg e]
      unfold MO_takeRequest_68
      rw [goOn_eq]
      have := e2 Q hQ
      simp only [bnd_iff] at this ⊢
      exact this
/-- whether a request is taken -/
def takes (c : vmD) : Prop := ¬ gF c 38 7 = 0 ∨ (¬ gF c 38 6 = 0 ∧ gA c 39 14 = 1 ∧ gF c 38 9 = 0)
theorem adv_yes {c : vmD} (h : takes c) (Q : Int32 → vmD → Prop) : Machine_advance c Q = Machine_takeRequest c (fun d => Q 2 d) := by
  unfold Machine_advance Machine_advance_32
  by_cases e : gF c 38 7 = 0
  · rcases h with h | ⟨h1, h2, h3⟩
    · exact absurd e h
    · rw [if_pos e, if_neg h1]
      simp only [bnd_iff, h2, h3, if_true]
  · rw [if_neg e]
theorem adv_no {c : vmD} (h : ¬ takes c) (Q : Int32 → vmD → Prop) : Machine_advance c Q = Machine_advance_38 c Q := by
  unfold takes at h
  have e7 : gF c 38 7 = 0 := Classical.byContradiction (fun e => h (Or.inl e))
  unfold Machine_advance
  rw [if_pos e7]
  by_cases e6 : gF c 38 6 = 0
  · rw [if_pos e6]
  · rw [if_neg e6]
    simp only [bnd_iff]
    by_cases e14 : gA c 39 14 = 1
    · rw [if_pos e14, if_neg (fun e9 => h (Or.inr ⟨e6, e14, e9⟩))]
    · rw [if_neg e14]
theorem rtr_yes {c r : vmD} (hR : Rel c r) (h : takes c) (Q : Int32 → vmD → Prop) : MO_takeRequest r Q = MO_takeRequest_41 r Q := by
  obtain ⟨w1, w2, w3, -⟩ := hR.2.2.2.2.2.2.2.2
  unfold takes at h
  rw [w1, w2, w3, hR.gt14.1] at h
  unfold MO_takeRequest MO_takeRequest_26 MO_takeRequest_27
  by_cases e : gF r 42 82 = 0
  · rcases h with h | ⟨h1, h2, h3⟩
    · exact absurd e h
    · rw [if_neg h1, if_pos h2, if_pos h3, if_pos e, if_neg (by decide)]
  · simp only [if_neg e]
    split
    · rfl
    · split
      · split <;> rfl
      · rfl
theorem rtr_no {c r : vmD} (hR : Rel c r) (h : ¬ takes c) (Q : Int32 → vmD → Prop) : MO_takeRequest r Q = Q 0 r := by
  obtain ⟨w1, w2, w3, -⟩ := hR.2.2.2.2.2.2.2.2
  unfold takes at h
  rw [w1, w2, w3, hR.gt14.1] at h
  have e7 : gF r 42 82 = 0 := Classical.byContradiction (fun e => h (Or.inl e))
  unfold MO_takeRequest MO_takeRequest_26 MO_takeRequest_27
  rw [if_pos e7, if_pos rfl]
  by_cases e6 : gF r 42 83 = 0
  · rw [if_pos e6]
  · rw [if_neg e6]
    by_cases e14 : gF r 42 77 = 1
    · rw [if_pos e14, if_neg (fun e9 => h (Or.inr ⟨e6, e14, e9⟩))]
    · rw [if_neg e14]
