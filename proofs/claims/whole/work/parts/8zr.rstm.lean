/-! The reference's statements: ORG, EQU, IF, ELSE, ENDIF -/
def PtR (sec : Bool) (r : vmD) (P : Pt) : Prop := (∀ a, a < 65536 → gA r 56 a = P.1 a) ∧ (sec = true → gF r 42 39 = nI P.2.1 ∧ gF r 42 40 = nI P.2.2)
def StR (B : Nat → Nat) (n : Nat) (r : vmD) (T : List Tk) (N : Nt) (sec : Bool) (ho h : Nat) (cs : Cs) (P : Pt) : Prop := LnR B n r T N (nI ho) ∧ gF r 42 20 = nI h ∧ gF r 42 42 = kb sec ∧ gF r 42 8 = 0 ∧ CsR r cs ∧ PtR sec r P
def AtE (r : vmD) (T : List Tk) : Prop := ∃ x, x < T.length ∧ (tk T x).1 = 0 ∧ gF r 42 2 = nI (tk T x).2.2.1
abbrev GRF : List Nat := [2, 3, 4, 5, 6, 8, 9, 16, 18, 19, 22, 28, 13, 20, 29, 30, 31, 32, 33, 34, 35, 36, 39, 40, 45, 55, 56, 57]
abbrev GRA : List Nat := [47, 48, 49, 50, 51, 52, 53, 54, 44, 45, 46, 56, 57, 58]
theorem StR.mod {B : Nat → Nat} {n : Nat} {F A : List Nat} {r r' : vmD} {T : List Tk} {N : Nt} {sec : Bool} {ho h : Nat} {cs : Cs} {P : Pt} (hS : StR B n r T N sec ho h cs P) (M : ModR F A r r') (h8 : gF r' 42 8 = 0) (hF : ¬ 1 ∈ F ∧ ¬ 13 ∈ F ∧ ¬ 21 ∈ F ∧ ¬ 20 ∈ F ∧ ¬ 42 ∈ F ∧ ¬ 45 ∈ F ∧ ¬ 39 ∈ F ∧ ¬ 40 ∈ F) (hA : ¬ 43 ∈ A ∧ ¬ 44 ∈ A ∧ ¬ 45 ∈ A ∧ ¬ 46 ∈ A ∧ ¬ 56 ∈ A ∧ ¬ 57 ∈ A ∧ ¬ 58 ∈ A) : StR B n r' T N sec ho h cs P := by
  obtain ⟨a, b, c, d, e, g⟩ := hS
  obtain ⟨f1, f2, f3, f4, f5, f6, f7, f8⟩ := hF
  obtain ⟨a1, a2, a3, a4, a5, a6, a7⟩ := hA
  refine ⟨a.mod M ⟨f1, f2, f3⟩ ⟨a1, a2, a3, a4⟩, ?_, ?_, h8, e.mod M f6 a6 a7, ?_⟩
  · rw [M.2.1 20 f4]
    exact b
  · rw [M.2.1 42 f5]
    exact c
  · unfold PtR at g ⊢
    rw [M.2.1 39 f7, M.2.1 40 f8, M.2.2.1 56 a5]
    exact g
theorem modRF {r r' : vmD} (h : ModR RF RA r r') : ModR GRF GRA r r' := h.mono (by decide) (by decide)
theorem modLF {r r' : vmD} (h : ModR LF [] r r') : ModR GRF GRA r r' := h.mono (by decide) (by decide)
theorem mod89 {r r' : vmD} (h : ModR [8, 9] [] r r') : ModR GRF GRA r r' := h.mono (by decide) (by decide)
/-- a statement's outcome on the reference's side -/
def SoR (B : Nat → Nat) (n : Nat) (r : vmD) (T : List Tk) (sec : Bool) (ho : Nat) (X : vmD → (Int32 → vmD → Prop) → Prop) (F : Fo) (N' : Nt) (h' : Nat) (cs' : Cs) (P' : Pt) : Prop := ∃ r' b, (∀ Q : Int32 → vmD → Prop, Q b r' → X r Q) ∧ ModR GRF GRA r r' ∧ OutR F b r' (StR B n r' T N' sec ho h' cs' P' ∧ AtE r' T)
theorem OutR.good {F : Fo} {b : Int32} {r : vmD} {S : Prop} (h : OutR F b r S) (hn : F = none) : b = 1 ∧ S := by
  rcases h with ⟨-, h⟩ | ⟨q, e, -⟩
  · exact h
  · rw [e] at hn
    cases hn
theorem OutR.bad {F : Fo} {b : Int32} {r : vmD} {S : Prop} (h : OutR F b r S) {q : Nat × Nat} (hq : F = some q) : b = 0 ∧ FlR r q := by
  rcases h with ⟨e, -⟩ | ⟨q', e, h⟩
  · rw [e] at hq
    cases hq
  · rw [e] at hq
    cases hq
    exact h
def orgP (d : vmD) (Q : Int32 → vmD → Prop) : Prop := bnd (gF d 42 4) fun x4_7 => MO_expression 1 d fun r_9 d_8 => if r_9 = 0 then (Q 0 d_8) else (if (gF d_8 42 22) < 0 then (MO_directive_75 x4_7 d_8 Q) else (if (65535 : Int32) < (gF d_8 42 22) then (MO_directive_75 x4_7 d_8 Q) else (if (gF d_8 42 3) = 1 then (bnd (sF d_8 42 20 (gF d_8 42 22)) fun d_16 => Q 1 d_16) else (MO_refuse d_8 fun r_18 d_17 => (r_18 = 0 ∨ r_18 = 1) ∧ Q r_18 d_17))))
theorem wrg75 {r : vmD} (h8 : gF r 42 8 = 0) (p : Nat) : ∃ r', (∀ Q : Int32 → vmD → Prop, Q 0 r' → MO_directive_75 (nI p) r Q) ∧ FlR r' (5, p) ∧ ModR [8, 9] [] r r' := by
  obtain ⟨r', E, a, M, -⟩ := wrgR h8 5 p
  refine ⟨r', fun Q hQ => ?_, a, M⟩
  unfold MO_directive_75
  exact E _ ⟨Or.inl rfl, hQ⟩
theorem orgR {B : Nat → Nat} {n : Nat} {r : vmD} {T : List Tk} {N : Nt} {sec : Bool} {ho h : Nat} {cs : Cs} {P : Pt} (hS : StR B n r T N sec ho h cs P) {t : Nat} (ht : t + 1 < T.length) (hC : CurR r (tk T (t + 1))) : SoR B n r T sec ho orgP (orgF T N (nI ho) t) N (xvl T N (nI ho) (t + 1)).toNatClampNeg cs P := by
  obtain ⟨hLn, h20, h42, h8, hCs, hP⟩ := id hS
  have hL := hLn.2.1
  obtain ⟨r1, b1, E1, M1, H1⟩ := xprR true ht hLn hC h8
  rw [if_pos rfl] at H1
  have start : ∀ Q : Int32 → vmD → Prop, (if b1 = 0 then (Q 0 r1) else (if (gF r1 42 22) < 0 then (MO_directive_75 (nI (plaT T (t + 1))) r1 Q) else (if (65535 : Int32) < (gF r1 42 22) then (MO_directive_75 (nI (plaT T (t + 1))) r1 Q) else (if (gF r1 42 3) = 1 then (bnd (sF r1 42 20 (gF r1 42 22)) fun d_16 => Q 1 d_16) else (MO_refuse r1 fun r_18 d_17 => (r_18 = 0 ∨ r_18 = 1) ∧ Q r_18 d_17))))) → orgP r Q := by
    intro Q hQ
    unfold orgP
    refine bnd_iff.mpr ?_
    rw [hC.2.1]
    exact E1 _ hQ
  cases eX : xF T N (nI ho) (t + 1) with
  | some q =>
    obtain ⟨e0, e1⟩ := H1.bad eX
    have eF : orgF T N (nI ho) t = some q := by
      unfold orgF nmF
      rw [eX]
      rfl
    refine ⟨r1, 0, fun Q hQ => start Q ?_, modRF M1, Or.inr ⟨q, eF, rfl, e1⟩⟩
    rw [e0, if_pos rfl]
    exact hQ
  | none =>
    obtain ⟨e0, hC1, h81, hok, hv⟩ := H1.good eX
    have hv := hv rfl
    have hx := exprLt hL (N := N) (here := nI ho) ht
    have hk := tk_kd hL (xat T N (nI ho) (t + 1))
    have bad : rgF (xvl T N (nI ho) (t + 1)) 0 65535 (plaT T (t + 1)) = some (5, plaT T (t + 1)) → (∀ Q : Int32 → vmD → Prop, MO_directive_75 (nI (plaT T (t + 1))) r1 Q → orgP r Q) → SoR B n r T sec ho orgP (orgF T N (nI ho) t) N (xvl T N (nI ho) (t + 1)).toNatClampNeg cs P := by
      intro hr hgo
      obtain ⟨r2, E2, f2, M2⟩ := wrg75 h81 (plaT T (t + 1))
      refine ⟨r2, 0, fun Q hQ => hgo Q (E2 Q hQ), (modRF M1).trans (mod89 M2), Or.inr ⟨(5, plaT T (t + 1)), ?_, rfl, f2⟩⟩
      unfold orgF nmF
      rw [eX, thF_none, hr, thF_some]
    by_cases g1 : xvl T N (nI ho) (t + 1) < 0
    · refine bad (if_pos g1) (fun Q hQ => start Q ?_)
      rw [e0, if_neg (by decide), hv, if_pos g1]
      exact hQ
    · by_cases g2 : (65535 : Int32) < xvl T N (nI ho) (t + 1)
      · refine bad ((if_neg g1).trans (if_pos g2)) (fun Q hQ => start Q ?_)
        rw [e0, if_neg (by decide), hv, if_neg g1, if_pos g2]
        exact hQ
      · have eR : rgF (xvl T N (nI ho) (t + 1)) 0 65535 (plaT T (t + 1)) = none := (if_neg g1).trans (if_neg g2)
        have eF : orgF T N (nI ho) t = endF T (xat T N (nI ho) (t + 1)) := by
          unfold orgF nmF
          rw [eX, thF_none, eR, thF_none]
        rw [eF]
        by_cases z : (tk T (xat T N (nI ho) (t + 1))).1 = 0
        · have k1 : gF r1 42 3 = 1 := by
            rw [hC1.1]
            exact (rk1 hk).1.mpr z
          refine ⟨sF r1 42 20 (gF r1 42 22), 1, fun Q hQ => start Q ?_, (modRF M1).sF (by decide) _, Or.inl ⟨if_pos z, rfl, ?_, ?_⟩⟩
          · rw [e0, if_neg (by decide), hv, if_neg g1, if_neg g2, if_pos k1]
            rw [hv] at hQ
            exact bnd_iff.mpr hQ
          · obtain ⟨k, hk', e⟩ := nI_of g1
            have hS1 : StR B n r1 T N sec ho h cs P := hS.mod M1 h81 (by decide) (by decide)
            obtain ⟨a, b, c, d, e', g⟩ := hS1
            have M2 : ModR [20] [] r1 (sF r1 42 20 (gF r1 42 22)) := (ModR.refl _ _ r1).sF (by decide) _
            refine ⟨a.mod M2 (by decide) (by decide), ?_, ?_, ?_, e'.mod M2 (by decide) (by decide) (by decide), ?_⟩
            · rw [gF_sF, u1f_eq, hv, e, nI_clamp hk']
            · rw [M2.2.1 42 (by decide)]
              exact c
            · rw [M2.2.1 8 (by decide)]
              exact d
            · unfold PtR at g ⊢
              rw [M2.2.1 39 (by decide), M2.2.1 40 (by decide), M2.2.2.1 56 (by decide)]
              exact g
          · refine ⟨xat T N (nI ho) (t + 1), hx, z, ?_⟩
            rw [gF_sF, u1f_ne _ _ (by decide)]
            exact hC1.2.2.1
        · have k1 : ¬ gF r1 42 3 = 1 := by
            rw [hC1.1]
            exact fun w => z ((rk1 hk).1.mp w)
          obtain ⟨r2, E2, f2, M2⟩ := rfsR hC1 h81 hk
          refine ⟨r2, 0, fun Q hQ => start Q ?_, (modRF M1).trans (mod89 M2), Or.inr ⟨_, if_neg z, rfl, f2⟩⟩
          rw [e0, if_neg (by decide), hv, if_neg g1, if_neg g2, if_neg k1]
          exact E2 _ ⟨Or.inl rfl, hQ⟩
/-- names -/
theorem addR {B : Nat → Nat} {n : Nat} {r : vmD} {N : Nt} (hO : SrcOk B n) (hSr : SrcR B n r) (hN : FnR r N) {q m : Nat} (h1 : 1 ≤ m) (h2 : m ≤ 12) (hq : q + m ≤ n) (hB : ∀ i, i < m → isN (B (q + i)) = true) (hl : N.length < 200) (v : Int32) : ∃ r', (∀ Q : vmD → Prop, Q r' → MO_addName (nI q) (nI (q + m)) v r Q) ∧ FnR r' (N ++ [(keyD B q m, v)]) ∧ ModR [13] [44, 45, 46] r r' ∧ gG r' = gG r := by
  obtain ⟨n1, n2, n3⟩ := hN
  have hn := hO.1
  have key : ∀ (f j : Nat) (d : vmD), j + f = m → ModR [13] [44, 45, 46] r d → gG d = gG r → gF d = gF r → gA d 45 = gA r 45 → gA d 46 = gA r 46 → (∀ i, i < j → gA d 44 (12 * N.length + i) = nI (capN (B (q + i)))) → (∀ i, i < 12 * N.length → gA d 44 i = gA r 44 i) → ∃ r', (∀ Q : vmD → Prop, Q r' → ∃ k, MO_addName_3 Q k (nI q) (nI (q + m)) v (nI (q + j)) d) ∧ FnR r' (N ++ [(keyD B q m, v)]) ∧ ModR [13] [44, 45, 46] r r' ∧ gG r' = gG r := by
    intro f
    induction f with
    | zero =>
      intro j d hj M hG hF h45 h46 hs hk
      have ej : j = m := by omega
      subst ej
      refine ⟨sF (sA (sA d 45 N.length (nI j)) 46 N.length v) 42 13 (nI (N.length + 1)), fun Q hQ => ⟨1, ?_⟩, ?_, ((M.sA (by decide) _ _).sA (by decide) _ _).sF (by decide) _, by rw [← hG]; rfl⟩
      · unfold MO_addName_3
        rw [if_neg (nI_nlt (Nat.le_refl _) (by omega)), hF, n1]
        refine ⟨nI_in (by omega) (by omega), bnd_iff.mpr ?_⟩
        rw [gF_sA, hF, n1]
        refine ⟨nI_in (by omega) (by omega), bnd_iff.mpr (bnd_iff.mpr ?_)⟩
        rw [gF_sA, gF_sA, hF, n1, nI_clamp (by omega), nI_p1, pk_sub (by omega), show q + j - q = j by omega]
        exact hQ
      · refine ⟨by simp only [gA_sA, gA_sA_ne, gA_sF, gA_sG, gA_sL, gF_sA, gF_sF, gF_sF_ne, gF_sG, gF_sL, gG_sA, gG_sF, gG_sL, gG_sGe, gG_sG_ne, gL_sA, gL_sF, gL_sG, gL_sLe, gL_sL_ne, u1f_eq, u1f_ne, bnd_iff, not_false_eq_true, Nat.reduceEqDiff, List.length_append, List.length_cons, List.length_nil], by rw [List.length_append]; show N.length + 1 ≤ 200; omega, fun i hi => ?_⟩
        rw [List.length_append] at hi
        have hi : i < N.length + 1 := hi
        simp only [gA_sA, gA_sA_ne, gA_sF, gA_sG, gA_sL, gF_sA, gF_sF, gF_sF_ne, gF_sG, gF_sL, gG_sA, gG_sF, gG_sL, gG_sGe, gG_sG_ne, gL_sA, gL_sF, gL_sG, gL_sLe, gL_sL_ne, u1f_eq, u1f_ne, bnd_iff, not_false_eq_true, Nat.reduceEqDiff]
        rw [h45, h46]
        by_cases z : i < N.length
        · rw [u1f_ne _ _ (by omega), u1f_ne _ _ (by omega), List.getElem_append_left z]
          obtain ⟨⟨mi, m1, m2, m3, m4, m5⟩, m6⟩ := n3 i z
          refine ⟨⟨mi, m1, m2, m3, fun x hx => ?_, ?_⟩, m6⟩
          · rw [hk _ (by omega)]
            exact m4 x hx
          · rw [m5]
            have : ∀ y, y ≤ mi → keyN (fun j => gA r 44 (12 * i + j)) y = keyN (fun j => gA d 44 (12 * i + j)) y := by
              intro y
              induction y with
              | zero => intro _; rfl
              | succ y ihy =>
                intro hy
                show keyN _ y * 38 + digN (gA r 44 (12 * i + y)) = keyN _ y * 38 + digN (gA d 44 (12 * i + y))
                rw [ihy (by omega), hk _ (by omega)]
            exact this mi (Nat.le_refl _)
        · have e : i = N.length := by omega
          subst e
          rw [u1f_eq, u1f_eq, List.getElem_append_right (Nat.le_refl _)]
          simp only [Nat.sub_self, List.getElem_cons_zero]
          refine ⟨⟨j, h1, h2, rfl, fun x hx => ?_, ?_⟩, trivial⟩
          · rw [hs x hx]
            exact (digN_cap _ (hO.2 _) (hB x hx)).1
          · exact (keyN_D hO.2 _ j hB (fun x hx => hs x hx)).symm
    | succ f ih =>
      intro j d hj M hG hF h45 h46 hs hk
      have hb := hO.2 (q + j)
      have ix : (((12 : Int32) * (gF d 42 13)) + nI (q + j)) - nI q = nI (12 * N.length + j) := by
        rw [hF, n1, show (12 : Int32) = nI 12 from rfl, pk_mul, nI_add, pk_sub (by omega)]
        exact congrArg nI (by omega)
      have hSd : gA d 43 = gA r 43 := M.2.2.1 43 (by decide)
      have M1 : ModR [13] [44, 45, 46] r (sA d 44 (12 * N.length + j) (nI (capN (B (q + j))))) := M.sA (by decide) _ _
      obtain ⟨r', E, H, M'⟩ := ih (j + 1) (sA d 44 (12 * N.length + j) (nI (capN (B (q + j))))) (by omega) M1 (by rw [← hG]; rfl) (by rw [← hF]; rfl) (by rw [← h45]; exact gA_sA_ne _ _ _ (by decide)) (by rw [← h46]; exact gA_sA_ne _ _ _ (by decide)) (fun i hi => by
        rw [gA_sA]
        by_cases z : i = j
        · rw [z, u1f_eq]
        · rw [u1f_ne _ _ (by omega)]
          exact hs i (by omega)) (fun i hi => by
        rw [gA_sA, u1f_ne _ _ (by omega)]
        exact hk i hi)
      refine ⟨r', fun Q hQ => ?_, H, M'⟩
      obtain ⟨k, hk'⟩ := E Q hQ
      refine ⟨k + 1, ?_⟩
      unfold MO_addName_3
      rw [if_pos (nI_lt (by omega) (by omega))]
      refine ⟨nI_in (by omega) (by omega), bnd_iff.mpr ?_⟩
      rw [nI_clamp (by omega), hSd, hSr.2 _ (by omega), MO_capital_e, cap_b _ hb, ix]
      refine ⟨nI_in (by omega) (by omega), bnd_iff.mpr (bnd_iff.mpr ?_)⟩
      rw [nI_clamp (by omega), nI_p1]
      exact hk'
  obtain ⟨r', E, H, M⟩ := key m 0 r (by omega) (ModR.refl _ _ _) rfl rfl rfl rfl (fun i hi => absurd hi (Nat.not_lt_zero _)) (fun _ _ => rfl)
  exact ⟨r', fun Q hQ => by unfold MO_addName; exact E Q hQ, H, M⟩
