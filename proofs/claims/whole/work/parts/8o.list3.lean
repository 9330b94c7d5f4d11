/-! The reference reads a statement's operands -/
def OPR (r : vmD) (i : Nat) (T : List Tk) (t : Nat) : Prop := ROx r i (oKd T t) (oNg T t) ∧ (∀ q, oFr T t = some q → gA r 52 i = nI (tk T q).2.1)
theorem OPR.eq {r r' : vmD} {i : Nat} {T : List Tk} {t : Nat} (h : OPR r i T t) (e : ∀ o, 50 ≤ o → o ≤ 54 → gA r' o i = gA r o i) : OPR r' i T t := by
  unfold OPR ROx at h ⊢
  rw [e 50 (by omega) (by omega), e 51 (by omega) (by omega), e 52 (by omega) (by omega), e 53 (by omega) (by omega), e 54 (by omega) (by omega)]
  exact h
theorem opsR {B : Nat → Nat} {n : Nat} {r : vmD} {T : List Tk} {N : Nt} {here : Int32} (hLn : LnR B n r T N here) {t : Nat} (ht : t < T.length) (hC : CurR r (tk T t)) (h8 : gF r 42 8 = 0) : ∃ r' b, ModR ROF ROA r r' ∧ ((lsOk T N here t = true ∧ b = 1 ∧ gF r' 42 8 = 0 ∧ gF r' 42 28 = nI (lsN T N here t) ∧ (∀ i, i < lsN T N here t → OPR r' i T (lsT T N here t i)) ∧ (∃ x, lsX T N here t = some x ∧ CurR r' (tk T x))) ∨ (¬ lsOk T N here t = true ∧ b = 0 ∧ FltR r' T (rfc T (lsB T N here t), lsB T N here t))) ∧ ∀ Q : Int32 → vmD → Prop, Q b r' → MO_readOperands r Q := by
  have hL := hLn.2.1
  have hl := hL.2.1
  have k1 : ∀ p, rkd (tk T p).1 = 1 ↔ (tk T p).1 = 0 := by
    intro p
    have : ∀ k, k < 128 → (rkd k = 1 ↔ k = 0) := by decide +kernel
    exact this _ (tk_kd hL p)
  obtain ⟨r0, hr0⟩ : ∃ r0 : vmD, r0 = sF r 42 28 0 := ⟨_, rfl⟩
  have M0 : ModR ROF ROA r r0 := by
    rw [hr0]
    exact (ModR.refl ROF ROA r).sF (by decide) _
  have C0 : CurR r0 (tk T t) := by
    rw [hr0]
    unfold CurR at hC ⊢
    simp only [gA_sA, gA_sA_ne, gA_sF, gA_sG, gA_sL, gF_sA, gF_sF, gF_sF_ne, gF_sG, gF_sL, gG_sA, gG_sF, gG_sL, gG_sGe, gG_sG_ne, gL_sA, gL_sF, gL_sG, gL_sLe, gL_sL_ne, u1f_eq, u1f_ne, bnd_iff, not_false_eq_true, Nat.reduceEqDiff]
    exact hC
  have z8 : gF r0 42 8 = 0 := by rw [hr0, gF_sF, u1f_ne _ _ (by decide), h8]
  have z28 : gF r0 42 28 = nI 0 := by rw [hr0, gF_sF, u1f_eq]; rfl
  have hLn0 : LnR B n r0 T N here := hLn.mod M0 (by decide) (by decide)
  have st : ∀ Q : Int32 → vmD → Prop, (if (tk T t).1 = 0 then Q 1 r0 else ∃ m15, MO_readOperands_15 Q m15 r0) → MO_readOperands r Q := by
    intro Q hQ
    unfold MO_readOperands
    refine bnd_iff.mpr ?_
    rw [← hr0, C0.1]
    by_cases z : (tk T t).1 = 0
    · rw [if_pos z] at hQ
      rw [if_pos ((k1 t).mpr z)]
      exact hQ
    · rw [if_neg z] at hQ
      rw [if_neg (fun w => z ((k1 t).mp w))]
      exact hQ
  unfold lsOk lsN lsT lsB lsX
  by_cases kz : (tk T t).1 = 0
  · simp only [if_pos kz, decide_eq_true kz]
    refine ⟨r0, 1, M0, Or.inl ⟨trivial, rfl, z8, z28, fun i hi => absurd hi (Nat.not_lt_zero _), t, rfl, C0⟩, fun Q hQ => st Q ?_⟩
    rw [if_pos kz]
    exact hQ
  · simp only [if_neg kz]
    have st : ∀ Q : Int32 → vmD → Prop, (∃ m15, MO_readOperands_15 Q m15 r0) → MO_readOperands r Q := fun Q hQ => st Q (by rw [if_neg kz]; exact hQ)
    obtain ⟨r1, b1, M1, R1, A1, E1⟩ := readOpR hLn0 ht C0 z8 (i := 0) (by omega) z28
    have hLn1 := hLn0.mod M1 (by decide) (by decide)
    have M01 := M0.trans M1
    rcases A1 with ⟨ok, hb1, C1, u8, u28, ux, u52⟩ | ⟨ok, hb1, F1⟩
    · have ht1 := oNx_lt hL (N := N) (here := here) ht
      obtain ⟨n1, hn1⟩ : ∃ n1, n1 = oNx T N here t := ⟨_, rfl⟩
      rw [← hn1] at C1 ht1
      have sg44 := sign_e C1 (tk_kd hL n1) (s := 44) (by omega) (by omega) (by omega) (by omega)
      have P0 : OPR r1 0 T t := ⟨ux, u52⟩
      have st1 : ∀ (m : Nat) (Q : Int32 → vmD → Prop), (if (tk T n1).1 = 0 then Q 1 r1 else if (tk T n1).1 = 44 then (MO_next r1 fun d_13 => (MO_readOperands_15 Q m) d_13) else MO_readOperands_51 r1 Q) → MO_readOperands_15 Q (m + 1) r0 := by
        intro m Q hQ
        unfold MO_readOperands_15
        refine E1 _ ?_
        rw [hb1, if_neg (by decide), C1.1]
        by_cases z : (tk T n1).1 = 0
        · rw [if_pos z] at hQ
          rw [if_pos ((k1 n1).mpr z)]
          exact hQ
        · rw [if_neg z] at hQ
          rw [if_neg (fun w => z ((k1 n1).mp w)), show (44 : Int32) = nI 44 from rfl, sg44]
          by_cases z2 : (tk T n1).1 = 44
          · rw [if_pos z2] at hQ ⊢
            rw [if_neg (by decide), u28, if_neg (by decide)]
            exact hQ
          · rw [if_neg z2] at hQ ⊢
            rw [if_pos rfl]
            exact hQ
      by_cases kc : (tk T n1).1 = 44
      · simp only [ok, if_true, ← hn1, if_pos kc]
        have ht2 := more hL ht1 (by omega)
        obtain ⟨r2, E2, C2, M2⟩ := nxR hLn1 ht2 C1
        have M2' : ModR ROF ROA r1 r2 := M2.mono (by decide) (by decide)
        have hLn2 := hLn1.mod M2 (by decide) (by decide)
        obtain ⟨r3, b3, M3, R3, A3, E3⟩ := readOpR hLn2 ht2 C2 (by rw [M2.2.1 8 (by decide), u8]) (i := 1) (by omega) (by rw [M2.2.1 28 (by decide), u28])
        have M03 := (M01.trans M2').trans M3
        have P0' : OPR r3 0 T t := P0.eq (fun o a1 a2 => by rw [R3 o 0 a1 a2 (by omega), M2.2.2.1 o (by intro z; cases z)])
        have st2 : ∀ (m : Nat) (Q : Int32 → vmD → Prop), MO_readOperands_15 Q m r2 → MO_readOperands r Q := by
          intro m Q hQ
          refine st Q ⟨m + 1, st1 m Q ?_⟩
          rw [if_neg (by omega), if_pos kc]
          exact E2 _ hQ
        rcases A3 with ⟨ok2, hb3, C3, y8, y28, yx, y52⟩ | ⟨ok2, hb3, F3⟩
        · have ht3 := oNx_lt hL (N := N) (here := here) ht2
          obtain ⟨n2, hn2⟩ : ∃ n2, n2 = oNx T N here (n1 + 1) := ⟨_, rfl⟩
          rw [← hn2] at C3 ht3
          have sg44' := sign_e C3 (tk_kd hL n2) (s := 44) (by omega) (by omega) (by omega) (by omega)
          have P1 : OPR r3 1 T (n1 + 1) := ⟨yx, y52⟩
          simp only [ok2, if_true, ← hn2]
          by_cases kz2 : (tk T n2).1 = 0
          · refine ⟨r3, 1, M03, Or.inl ⟨decide_eq_true kz2, rfl, y8, y28, fun i hi => ?_, n2, rfl, C3⟩, fun Q hQ => st2 1 Q ?_⟩
            · have : i = 0 ∨ i = 1 := by omega
              rcases this with rfl | rfl
              · rw [if_pos rfl]
                exact P0'
              · rw [if_neg (by omega)]
                exact P1
            · unfold MO_readOperands_15
              refine E3 _ ?_
              rw [hb3, if_neg (by decide), C3.1, if_pos ((k1 n2).mpr kz2)]
              exact hQ
          · obtain ⟨r4, E4, F4, M4⟩ := refuseR C3 y8 (tk_kd hL n2)
            refine ⟨r4, 0, M03.trans (M4.mono (by decide) (by decide)), Or.inr ⟨by rw [decide_eq_false kz2]; exact Bool.false_ne_true, rfl, F4⟩, fun Q hQ => st2 1 Q ?_⟩
            have e51 : MO_readOperands_51 r3 Q := by
              unfold MO_readOperands_51
              exact E4 _ ⟨Or.inl rfl, hQ⟩
            unfold MO_readOperands_15
            refine E3 _ ?_
            rw [hb3, if_neg (by decide), C3.1, if_neg (fun w => kz2 ((k1 n2).mp w)), show (44 : Int32) = nI 44 from rfl, sg44']
            by_cases z2 : (tk T n2).1 = 44
            · rw [if_pos z2, if_neg (by decide), y28, if_pos (by decide)]
              exact e51
            · rw [if_neg z2, if_pos rfl]
              exact e51
        · simp only [if_neg ok2, Bool.false_eq_true, not_false_eq_true, false_and, true_and, false_or]
          refine ⟨r3, 0, M03, ⟨rfl, F3⟩, fun Q hQ => st2 1 Q ?_⟩
          unfold MO_readOperands_15
          refine E3 _ ?_
          rw [hb3, if_pos rfl]
          exact hQ
      · simp only [ok, if_true, ← hn1, if_neg kc]
        by_cases kz1 : (tk T n1).1 = 0
        · refine ⟨r1, 1, M01, Or.inl ⟨decide_eq_true kz1, rfl, u8, u28, fun i hi => ?_, n1, rfl, C1⟩, fun Q hQ => st Q ⟨1, st1 0 Q ?_⟩⟩
          · have : i = 0 := by omega
            rw [this, if_pos rfl]
            exact P0
          · rw [if_pos kz1]
            exact hQ
        · obtain ⟨r4, E4, F4, M4⟩ := refuseR C1 u8 (tk_kd hL n1)
          refine ⟨r4, 0, M01.trans (M4.mono (by decide) (by decide)), Or.inr ⟨by rw [decide_eq_false kz1]; exact Bool.false_ne_true, rfl, F4⟩, fun Q hQ => st Q ⟨1, st1 0 Q ?_⟩⟩
          rw [if_neg kz1, if_neg kc]
          unfold MO_readOperands_51
          exact E4 _ ⟨Or.inl rfl, hQ⟩
    · simp only [if_neg ok, Bool.false_eq_true, not_false_eq_true, false_and, true_and, false_or]
      refine ⟨r1, 0, M01, ⟨rfl, F1⟩, fun Q hQ => st Q ⟨1, ?_⟩⟩
      unfold MO_readOperands_15
      refine E1 _ ?_
      rw [hb1, if_pos rfl]
      exact hQ
