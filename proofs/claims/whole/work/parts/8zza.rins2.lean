/-! The reference's instructions -/
theorem lsF {B : Nat → Nat} {n : Nat} {T : List Tk} (hL : Lx B n T) {N : Nt} {here : Int32} {p : Nat} (hp : p < T.length) (ok : lsOk T N here p = true) {i : Nat} (hi : i < lsN T N here p) : lsT T N here p i < T.length ∧ oOk T N here (lsT T N here p i) = true := by
  unfold lsN at hi
  unfold lsOk lsX at ok
  unfold lsT
  by_cases k0 : (tk T p).1 = 0
  · rw [if_pos k0] at hi
    omega
  · rw [if_neg k0] at hi ok
    by_cases o1 : oOk T N here p = true
    · rw [if_pos o1] at hi ok
      have hnx := oNx_lt hL (N := N) (here := here) hp
      by_cases kc : (tk T (oNx T N here p)).1 = 44
      · rw [if_pos kc] at hi ok
        by_cases o2 : oOk T N here (oNx T N here p + 1) = true
        · rw [if_pos o2] at hi
          by_cases z : i = 0
          · rw [if_pos z]
            exact ⟨hp, o1⟩
          · rw [if_neg z]
            exact ⟨more hL hnx (by omega), o2⟩
        · rw [if_neg o2] at ok
          cases ok
      · rw [if_neg kc] at hi
        rw [if_pos (by omega)]
        exact ⟨hp, o1⟩
    · rw [if_neg o1] at hi
      omega
theorem agP.eq {x : Nat} {m m' : Nat → Int32} (h : agP x m) (e : ∀ f, 29 ≤ f → f ≤ 36 → m' f = m f) : agP x m' := by
  unfold agP at h ⊢
  rw [e 29 (by omega) (by omega), e 30 (by omega) (by omega), e 31 (by omega) (by omega), e 36 (by omega) (by omega), e 32 (by omega) (by omega), e 34 (by omega) (by omega), e 35 (by omega) (by omega)]
  exact h
def liT (x2 : Int32) (d : vmD) (Q : Int32 → vmD → Prop) : Prop := bnd (sF d 42 2 x2) fun d_8 => if (gF d_8 42 34) = 3 then (if (gF d_8 42 55) = 0 then (MO_layInstruction_68 0 d_8 Q) else (MO_layInstruction_68 ((gF d_8 42 55) + 1) d_8 Q)) else (MO_layInstruction_71 d_8 Q)
theorem opsW {B : Nat → Nat} {n : Nat} {r : vmD} {T : List Tk} {N : Nt} {h t w x : Nat} (hw : w < 107) (hX : inX T N (nI h) t w = some x) (hLn : LnR B n r T N (nI h)) (h8 : gF r 42 8 = 0) (h20 : gF r 42 20 = nI h) (hA : agP x (gF r 42)) (ht : t + 1 < T.length) (ok : lsOk T N (nI h) (t + 1) = true) (h28 : gF r 42 28 = nI (lsN T N (nI h) (t + 1))) (hO : ∀ i, i < lsN T N (nI h) (t + 1) → OPR r i T (lsT T N (nI h) (t + 1) i)) : ∃ r' b, (∀ Q : Int32 → vmD → Prop, (if b = 0 then Q 0 r' else liT (gF r 42 2) r' Q) → MO_layInstruction (nI (szN x)) r Q) ∧ ModR WF [47, 48, 49] r r' ∧ OutR (inB T N (nI h) t h x) b r' (gF r' 42 8 = 0 ∧ gF r' 42 55 = (if pkI (shF x 0) = 0 then 0 else vlI T N (nI h) (t + 1) 0) ∧ ((shF x 0 = 32 ∨ shF x 0 = 33) → gF r' 42 56 = vlI T N (nI h) (t + 1) 0) ∧ ((shF x 1 = 32 ∨ shF x 1 = 33) → gF r' 42 56 = vlI T N (nI h) (t + 1) 1) ∧ (¬ bkI (shF x 0) = 0 → gF r' 42 57 = cvI T N (nI h) (t + 1) h x 0) ∧ (¬ bkI (shF x 1) = 0 → gF r' 42 57 = cvI T N (nI h) (t + 1) h x 1)) := by
  have hL := hLn.2.1
  have hl2 := lsN_2 T N (nI h) (t + 1)
  obtain ⟨hx, hsz, hs4, a0, a1, -, -, -, hGx, -⟩ := inX_ok hw hX
  obtain ⟨hraw, hidx⟩ := raw_ok hw hX
  have hGx2 := hGx
  unfold agX at hGx2
  simp only [Bool.and_eq_true, Bool.or_eq_true, decide_eq_true_eq] at hGx2
  obtain ⟨⟨⟨⟨-, x2⟩, x3⟩, x4⟩, -⟩ := hGx2
  obtain ⟨r0, hr0⟩ : ∃ r0, r0 = sF r 42 55 0 := ⟨_, rfl⟩
  have M0 : ModR WF [47, 48, 49] r r0 := by
    rw [hr0]
    exact (ModR.refl _ _ r).sF (by decide) _
  have f55 : gF r0 42 55 = 0 := by rw [hr0, gF_sF, u1f_eq]
  have h80 : gF r0 42 8 = 0 := by
    rw [hr0, gF_sF, u1f_ne _ _ (by decide)]
    exact h8
  have start : ∀ (Q : Int32 → vmD → Prop) (m : Nat), MO_layInstruction_12 Q m (nI (szN x)) (gF r 42 2) (nI 0) r0 → MO_layInstruction (nI (szN x)) r Q := by
    intro Q m hQ
    unfold MO_layInstruction
    refine bnd_iff.mpr (bnd_iff.mpr ⟨m, ?_⟩)
    rw [← hr0]
    exact hQ
  have step : ∀ (Q : Int32 → vmD → Prop) (m i : Nat) (d : vmD), i < lsN T N (nI h) (t + 1) → ModR WF [47, 48, 49] r d → (MO_work (nI i) (nI (szN x)) d fun r_5 d_4 => if r_5 = 0 then (Q 0 d_4) else MO_layInstruction_12 Q m (nI (szN x)) (gF r 42 2) (nI (i + 1)) d_4) → MO_layInstruction_12 Q (m + 1) (nI (szN x)) (gF r 42 2) (nI i) d := by
    intro Q m i d hi M hQ
    unfold MO_layInstruction_12
    rw [M.2.1 28 (by decide), h28, if_pos (nI_lt hi (by omega))]
    simp only [bnd_iff, nI_p1]
    exact hQ
  have last : ∀ (Q : Int32 → vmD → Prop) (i : Nat) (d : vmD), i = lsN T N (nI h) (t + 1) → ModR WF [47, 48, 49] r d → liT (gF r 42 2) d Q → MO_layInstruction_12 Q 1 (nI (szN x)) (gF r 42 2) (nI i) d := by
    intro Q i d hi M hQ
    unfold MO_layInstruction_12
    rw [M.2.1 28 (by decide), h28, if_neg (nI_nlt (by omega) (by omega))]
    exact hQ
  have look : ∀ (i : Nat) (d : vmD), i < lsN T N (nI h) (t + 1) → ModR WF [47, 48, 49] r d → gF d 42 8 = 0 → ∃ r' b, (∀ Q : Int32 → vmD → Prop, Q b r' → MO_work (nI i) (nI (szN x)) d Q) ∧ ModR WF [47, 48, 49] d r' ∧ OutR (thF (opA T N (nI h) (t + 1) i) (opR T N (nI h) (t + 1) h x i)) b r' (WkS T N (nI h) (t + 1) h w x i d r') := by
    intro i d hi M hd8
    obtain ⟨q1, q2⟩ := lsF hL ht ok hi
    refine workR hw hX (hLn.mod M (by decide) (by decide)) hd8 ?_ (hA.eq (fun f g1 g2 => M.2.1 f ?_)) ht ok hi q1 ((hO i hi).eq (fun o g1 g2 => ?_)) q2
    · rw [M.2.1 20 (by decide)]
      exact h20
    · intro q
      simp only [List.mem_cons, List.not_mem_nil, or_false] at q
      omega
    · rw [M.2.2.1 o (by
        intro q
        simp only [List.mem_cons, List.not_mem_nil, or_false] at q
        omega)]
  have z0 : ∀ i, i < 2 → lsN T N (nI h) (t + 1) ≤ i → (¬ (shF x i = 32 ∨ shF x i = 33)) ∧ bkI (shF x i) = 0 ∧ pkI (shF x i) = 0 ∧ opA T N (nI h) (t + 1) i = none ∧ opR T N (nI h) (t + 1) h x i = none := by
    intro i hi hl
    have e := shF_0 hw hX hi hl
    rw [e]
    refine ⟨by decide, by decide, by decide, if_neg (by omega), if_neg (by omega)⟩
  unfold inB
  have c3 : lsN T N (nI h) (t + 1) = 0 ∨ lsN T N (nI h) (t + 1) = 1 ∨ lsN T N (nI h) (t + 1) = 2 := by omega
  rcases c3 with e | e | e
  · obtain ⟨p1, p2, p3, p4, p5⟩ := z0 0 (by omega) (by omega)
    obtain ⟨q1, q2, q3, q4, q5⟩ := z0 1 (by omega) (by omega)
    rw [p4, p5, q4, q5]
    refine ⟨r0, 1, fun Q hQ => start Q 1 (last Q 0 r0 e.symm M0 ?_), M0, Or.inl ⟨rfl, rfl, h80, by rw [p3, if_pos rfl]; exact f55, fun q => absurd q p1, fun q => absurd q q1, fun q => absurd p2 q, fun q => absurd q2 q⟩⟩
    rw [if_neg (by decide)] at hQ
    exact hQ
  · obtain ⟨q1, q2, q3, q4, q5⟩ := z0 1 (by omega) (by omega)
    rw [q4, q5]
    have eT : thF (none : Fo) none = none := rfl
    rw [eT, thF_n]
    obtain ⟨r1, b1, E1, M1, H1⟩ := look 0 r0 (by omega) M0 h80
    cases eF : thF (opA T N (nI h) (t + 1) 0) (opR T N (nI h) (t + 1) h x 0) with
    | some v =>
      obtain ⟨g0, g1⟩ := H1.bad eF
      refine ⟨r1, 0, fun Q hQ => start Q 1 (step Q 0 0 r0 (by omega) M0 (E1 _ ?_)), M0.trans M1, Or.inr ⟨v, rfl, rfl, g1⟩⟩
      rw [g0]
      rw [if_pos rfl] at hQ ⊢
      exact hQ
    | none =>
      obtain ⟨g0, w1, w2, w3, w4, w5, w6, w7⟩ := H1.good eF
      refine ⟨r1, 1, fun Q hQ => start Q 2 (step Q 1 0 r0 (by omega) M0 (E1 _ ?_)), M0.trans M1, Or.inl ⟨rfl, rfl, w1, ?_, w2, fun q => absurd q q1, w6, fun q => absurd q2 q⟩⟩
      · rw [if_neg (by decide)] at hQ
        rw [g0, if_neg (by decide)]
        exact last Q 1 r1 (by omega) (M0.trans M1) hQ
      · by_cases zp : pkI (shF x 0) = 0
        · rw [if_pos zp, w5 zp, f55]
        · rw [if_neg zp]
          exact w4 zp
  · obtain ⟨r1, b1, E1, M1, H1⟩ := look 0 r0 (by omega) M0 h80
    cases eF : thF (opA T N (nI h) (t + 1) 0) (opR T N (nI h) (t + 1) h x 0) with
    | some v =>
      obtain ⟨g0, g1⟩ := H1.bad eF
      refine ⟨r1, 0, fun Q hQ => start Q 1 (step Q 0 0 r0 (by omega) M0 (E1 _ ?_)), M0.trans M1, Or.inr ⟨v, rfl, rfl, g1⟩⟩
      rw [g0]
      rw [if_pos rfl] at hQ ⊢
      exact hQ
    | none =>
      obtain ⟨g0, w1, w2, w3, w4, w5, w6, w7⟩ := H1.good eF
      rw [thF_none]
      obtain ⟨r2, b2, E2, M2, H2⟩ := look 1 r1 (by omega) (M0.trans M1) w1
      have M02 := (M0.trans M1).trans M2
      cases eF2 : thF (opA T N (nI h) (t + 1) 1) (opR T N (nI h) (t + 1) h x 1) with
      | some v =>
        obtain ⟨k0, k1⟩ := H2.bad eF2
        refine ⟨r2, 0, fun Q hQ => start Q 2 (step Q 1 0 r0 (by omega) M0 (E1 _ ?_)), M02, Or.inr ⟨v, rfl, rfl, k1⟩⟩
        rw [if_pos rfl] at hQ
        rw [g0, if_neg (by decide)]
        refine step Q 0 1 r1 (by omega) (M0.trans M1) (E2 _ ?_)
        rw [k0, if_pos rfl]
        exact hQ
      | none =>
        obtain ⟨k0, u1, u2, u3, u4, u5, u6, u7⟩ := H2.good eF2
        refine ⟨r2, 1, fun Q hQ => start Q 3 (step Q 2 0 r0 (by omega) M0 (E1 _ ?_)), M02, Or.inl ⟨rfl, rfl, u1, ?_, fun q => ?_, u2, fun q => ?_, u6⟩⟩
        · rw [if_neg (by decide)] at hQ
          rw [g0, if_neg (by decide)]
          refine step Q 1 1 r1 (by omega) (M0.trans M1) (E2 _ ?_)
          rw [k0, if_neg (by decide)]
          exact last Q 2 r2 (by omega) M02 hQ
        · rw [u5 x3]
          by_cases zp : pkI (shF x 0) = 0
          · rw [if_pos zp, w5 zp, f55]
          · rw [if_neg zp]
            exact w4 zp
        · have ea : adjK w (kdN T N (nI h) (t + 1) 0) = 32 ∨ adjK w (kdN T N (nI h) (t + 1) 0) = 33 := by
            have hk36 : adjK w (kdN T N (nI h) (t + 1) 0) < 36 := by
              refine (adjK_lt (w := w) (k := kdN T N (nI h) (t + 1) 0)).2.1 ?_
              unfold kdN
              rw [if_pos (by omega)]
              exact (oKd_36 T _).1
            rcases q with q | q
            · rw [q] at a0
              have a0 : (32 : Int32) = nI (adjK w (kdN T N (nI h) (t + 1) 0)) := a0
              exact Or.inl ((nI_eq (a := 32) (by omega) (by omega)).mp a0).symm
            · rw [q] at a0
              have a0 : (33 : Int32) = nI (adjK w (kdN T N (nI h) (t + 1) 0)) := a0
              exact Or.inr ((nI_eq (a := 33) (by omega) (by omega)).mp a0).symm
          rw [u3 (fun y => hidx ⟨by omega, y⟩)]
          exact w2 q
        · rw [u7 (x2.resolve_left q)]
          exact w6 q
