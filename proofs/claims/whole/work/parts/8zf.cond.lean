/-! IFs that are open, the innermost first: whether done, whether ELSE is seen; the class's state of them -/
abbrev Cs : Type := List (Bool × Bool)
def dnA : Cs → Bool
  | [] => true
  | x :: l => x.1 && dnA l
def stI (x : Bool × Bool) (l : Cs) : Int32 := (if dnA l = true then 4 else 0) ||| (if (x.1 && dnA l) = true then 1 else 0) ||| (if x.2 = true then 2 else 0)
def stL : Cs → List Int32
  | [] => []
  | x :: l => stI x l :: stL l
theorem stL_len : ∀ cs : Cs, (stL cs).length = cs.length := by
  intro cs
  induction cs with
  | nil => rfl
  | cons x l ih =>
    show (stL l).length + 1 = l.length + 1
    rw [ih]
def CsC (c : vmD) (cs : Cs) : Prop := gF c 22 1 = nI cs.length ∧ cs.length ≤ 8 ∧ Stk (gA c 23) (stL cs)
def ltI (cs : Cs) : Int32 := match cs with
  | [] => 5
  | x :: l => stI x l
def alw (w : Nat) (cs : Cs) : Bool := if w = 104 then decide (cs.length < 8) else match cs with
  | [] => false
  | x :: _ => decide (w = 106) || !x.2
def pas (w : Nat) (y : Bool) (cs : Cs) : Cs := if w = 104 then (y, false) :: cs else match cs with
  | [] => []
  | x :: l => if w = 106 then l else (!x.1, true) :: l
theorem CsC.mod {F : List (Nat × Nat)} {A L : List Nat} {c c' : vmD} {cs : Cs} (h : CsC c cs) (M : ModC F A L c c') (h1 : ¬ (22, 1) ∈ F) (h2 : ¬ 23 ∈ A) : CsC c' cs := by
  unfold CsC at h ⊢
  rw [M.1 22 1 h1, M.2.1 23 h2]
  exact h
theorem latC {c : vmD} {cs : Cs} (h : CsC c cs) (Q : Int32 → vmD → Prop) : Conditions_latest c Q = Q (ltI cs) c := by
  obtain ⟨h1, h2, h3⟩ := h
  unfold Conditions_latest
  cases cs with
  | nil =>
    rw [h1, if_neg (show ¬ (0 : Int32) < nI ([] : Cs).length by decide)]
    rfl
  | cons x l =>
    rw [List.length_cons] at h1 h2
    rw [h1, if_pos (show (0 : Int32) < nI (l.length + 1) from nI_lt (a := 0) (by omega) (by omega)), if_neg (show ¬ (8 : Int32) < nI (l.length + 1) from nI_nlt (a := 8) (by omega) (by omega)), nI_pred, tA (nI_in (by omega) (by omega))]
    refine (propext bnd_iff).trans ?_
    have h4 : gA c 23 (stL l).length = stI x l := h3.1
    rw [stL_len] at h4
    rw [nI_clamp (by omega), h4]
    rfl
theorem lt_1 (cs : Cs) : (ltI cs &&& 1 = 0) ↔ ¬ dnA cs = true := by
  cases cs with
  | nil => decide
  | cons x l =>
    show stI x l &&& 1 = 0 ↔ ¬ (x.1 && dnA l) = true
    unfold stI
    obtain ⟨a, b⟩ := x
    cases a <;> cases b <;> cases dnA l <;> decide
theorem lt_2 (x : Bool × Bool) (l : Cs) : (stI x l &&& 2 = 0) ↔ x.2 = false := by
  unfold stI
  obtain ⟨a, b⟩ := x
  cases a <;> cases b <;> cases dnA l <;> decide
theorem lt_4 (x : Bool × Bool) (l : Cs) : (stI x l &&& 4 = 0) ↔ dnA l = false := by
  unfold stI
  obtain ⟨a, b⟩ := x
  cases a <;> cases b <;> cases dnA l <;> decide
theorem donC {c : vmD} {cs : Cs} (h : CsC c cs) (Q : Int32 → vmD → Prop) : Conditions_done c Q = Q (kb (dnA cs)) c := by
  unfold Conditions_done
  rw [latC h]
  have e := lt_1 cs
  cases z : dnA cs with
  | false =>
    rw [if_pos (e.mpr (by rw [z]; exact Bool.false_ne_true))]
    rfl
  | true =>
    rw [if_neg (fun q => (e.mp q) z)]
    rfl
theorem opnC {c : vmD} {cs : Cs} (h : CsC c cs) (Q : Int32 → vmD → Prop) : Conditions_anyOpen c Q = Q (kb (decide (0 < cs.length))) c := by
  obtain ⟨h1, h2, h3⟩ := h
  unfold Conditions_anyOpen
  rw [h1]
  by_cases z : 0 < cs.length
  · rw [if_pos (show (0 : Int32) < nI cs.length from nI_lt (a := 0) z (by omega)), decide_eq_true z]
    rfl
  · rw [if_neg (show ¬ (0 : Int32) < nI cs.length from nI_nlt (a := 0) (by omega) (by omega)), decide_eq_false z]
    rfl
theorem alwC {c : vmD} {cs : Cs} (h : CsC c cs) {w : Nat} (hw : w = 104 ∨ w = 105 ∨ w = 106) (Q : Int32 → vmD → Prop) : Conditions_allows (nI w) c Q = Q (kb (alw w cs)) c := by
  have hl := latC h
  obtain ⟨h1, h2, h3⟩ := h
  unfold Conditions_allows alw
  by_cases e : w = 104
  · subst e
    rw [if_pos (show nI 104 = 104 from rfl), if_pos rfl, h1]
    by_cases z : cs.length < 8
    · rw [if_pos (show nI cs.length < 8 from nI_lt (b := 8) z (by omega)), decide_eq_true z]
      rfl
    · rw [if_neg (show ¬ nI cs.length < (8 : Int32) from nI_nlt (b := 8) (by omega) (by omega)), decide_eq_false z]
      rfl
  · have n104 : ¬ nI w = 104 := fun q => e ((nI_eq (b := 104) (by omega) (by omega)).mp q)
    rw [if_neg n104, if_neg e, h1]
    cases cs with
    | nil =>
      rw [if_neg (show ¬ (0 : Int32) < nI ([] : Cs).length by decide)]
      rfl
    | cons x l =>
      rw [List.length_cons] at h1 h2
      rw [List.length_cons, if_pos (show (0 : Int32) < nI (l.length + 1) from nI_lt (a := 0) (by omega) (by omega))]
      dsimp only
      by_cases e6 : w = 106
      · subst e6
        rw [if_pos (show nI 106 = 106 from rfl)]
        rfl
      · have n106 : ¬ nI w = 106 := fun q => e6 ((nI_eq (b := 106) (by omega) (by omega)).mp q)
        rw [if_neg n106, hl, decide_eq_false e6]
        have e2 := lt_2 x l
        have e3 : ltI (x :: l) = stI x l := rfl
        rw [e3]
        cases z : x.2 with
        | false =>
          rw [if_pos (e2.mpr z)]
          rfl
        | true =>
          rw [if_neg (fun q => by rw [z] at e2; exact Bool.noConfusion (e2.mp q))]
          rfl
theorem chgC {c : vmD} {k : Nat} (h1 : gF c 22 1 = nI (k + 1)) (h2 : k < 8) (v : Int32) (Q : vmD → Prop) : Conditions_change v c Q = Q (sA c 23 k v) := by
  unfold Conditions_change
  rw [h1, if_pos (show (0 : Int32) < nI (k + 1) from nI_lt (a := 0) (by omega) (by omega)), if_neg (show ¬ (8 : Int32) < nI (k + 1) from nI_nlt (a := 8) (by omega) (by omega)), nI_pred, tA (nI_in (by omega) (by omega))]
  refine (propext bnd_iff).trans ?_
  rw [nI_clamp (by omega)]
theorem pasC {c : vmD} {cs : Cs} (h : CsC c cs) {w : Nat} (hw : w = 104 ∨ w = 105 ∨ w = 106) (y : Bool) : ∃ c', (∀ Q : vmD → Prop, Q c' → Conditions_pass (nI w) (kb y) c Q) ∧ (alw w cs = true → CsC c' (pas w y cs)) ∧ ModC [(22, 1)] [23] [] c c' := by
  by_cases ha : alw w cs = true
  · have hall := alwC h hw
    rw [ha] at hall
    have hd := donC h
    have hl := latC h
    obtain ⟨h1, h2, h3⟩ := h
    by_cases e : w = 104
    · subst e
      have hlen : cs.length < 8 := by
        unfold alw at ha
        rw [if_pos rfl] at ha
        exact of_decide_eq_true ha
      have st : ∀ v : Int32, ModC [(22, 1)] [23] [] c (sA (sF c 22 1 (nI (cs.length + 1))) 23 cs.length v) := fun v => ((ModC.refl _ _ _ c).sF (by decide) _).sA (by decide) _ _
      have cv : ∀ v : Int32, v = stI (y, false) cs → CsC (sA (sF c 22 1 (nI (cs.length + 1))) 23 cs.length v) ((y, false) :: cs) := by
        intro v hv
        refine ⟨?_, by rw [List.length_cons]; omega, ?_, ?_⟩
        · simp only [gA_sA, gA_sA_ne, gA_sF, gA_sG, gA_sL, gF_sA, gF_sF, gF_sF_ne, gF_sG, gF_sL, gG_sA, gG_sF, gG_sL, gG_sGe, gG_sG_ne, gL_sA, gL_sF, gL_sG, gL_sLe, gL_sL_ne, u1f_eq, u1f_ne, bnd_iff, not_false_eq_true, Nat.reduceEqDiff]
          rfl
        · rw [stL_len]
          simp only [gA_sA, gA_sA_ne, gA_sF, gA_sG, gA_sL, gF_sA, gF_sF, gF_sF_ne, gF_sG, gF_sL, gG_sA, gG_sF, gG_sL, gG_sGe, gG_sG_ne, gL_sA, gL_sF, gL_sG, gL_sLe, gL_sL_ne, u1f_eq, u1f_ne, bnd_iff, not_false_eq_true, Nat.reduceEqDiff]
          exact hv
        · simp only [gA_sA, gA_sA_ne, gA_sF, gA_sG, gA_sL, gF_sA, gF_sF, gF_sF_ne, gF_sG, gF_sL, gG_sA, gG_sF, gG_sL, gG_sGe, gG_sG_ne, gL_sA, gL_sF, gL_sG, gL_sLe, gL_sL_ne, u1f_eq, u1f_ne, bnd_iff, not_false_eq_true, Nat.reduceEqDiff]
          exact h3.upd _ (by rw [stL_len]; exact Nat.le_refl _)
      refine ⟨sA (sF c 22 1 (nI (cs.length + 1))) 23 cs.length (stI (y, false) cs), fun Q hQ => ?_, fun _ => cv _ rfl, st _⟩
      unfold Conditions_pass
      rw [hall, if_neg (by decide), if_pos (show nI 104 = 104 from rfl), hd]
      have p53 : ∀ s0 s1 : Int32, s1 ||| s0 = stI (y, false) cs → Conditions_pass_53 s0 s1 (sF c 22 1 (nI (cs.length + 1))) Q := by
        intro s0 s1 hs
        unfold Conditions_pass_53
        rw [chgC (k := cs.length) (by simp only [gA_sA, gA_sA_ne, gA_sF, gA_sG, gA_sL, gF_sA, gF_sF, gF_sF_ne, gF_sG, gF_sL, gG_sA, gG_sF, gG_sL, gG_sGe, gG_sG_ne, gL_sA, gL_sF, gL_sG, gL_sLe, gL_sL_ne, u1f_eq, u1f_ne, bnd_iff, not_false_eq_true, Nat.reduceEqDiff]) hlen, hs]
        exact hQ
      have p27 : ∀ s0 : Int32, s0 = (if dnA cs = true then 4 else 0) → Conditions_pass_27 (kb y) s0 c Q := by
        intro s0 hs
        unfold Conditions_pass_27
        refine bnd_iff.mpr ?_
        rw [h1, nI_p1]
        by_cases z : dnA cs = true
        · rw [if_pos z] at hs
          subst hs
          rw [if_neg (by decide)]
          cases y with
          | false =>
            rw [if_pos (show kb false = 0 from rfl)]
            unfold Conditions_pass_52
            exact p53 _ _ (by unfold stI; rw [z]; decide)
          | true =>
            rw [if_neg (by decide)]
            exact p53 _ _ (by unfold stI; rw [z]; decide)
        · rw [if_neg z] at hs
          subst hs
          rw [if_pos rfl]
          unfold Conditions_pass_52
          refine p53 _ _ ?_
          unfold stI
          rw [Bool.eq_false_iff.mpr z]
          cases y <;> decide
      by_cases z : dnA cs = true
      · rw [z, if_neg (by decide)]
        exact p27 4 (by rw [if_pos z])
      · rw [Bool.eq_false_iff.mpr z, if_pos (show kb false = 0 from rfl)]
        exact p27 0 (by rw [if_neg z])
    · have n104 : ¬ nI w = 104 := fun q => e ((nI_eq (b := 104) (by omega) (by omega)).mp q)
      cases cs with
      | nil =>
        unfold alw at ha
        rw [if_neg e] at ha
        exact Bool.noConfusion ha
      | cons x l =>
        rw [List.length_cons] at h1 h2
        by_cases e6 : w = 106
        · subst e6
          have ep : pas 106 y (x :: l) = l := rfl
          refine ⟨sF c 22 1 (nI l.length), fun Q hQ => ?_, fun _ => ?_, (ModC.refl _ _ _ c).sF (by decide) _⟩
          · unfold Conditions_pass
            rw [hall, if_neg (by decide), if_neg n104, if_pos (show nI 106 = 106 from rfl), h1, nI_pred]
            exact bnd_iff.mpr hQ
          · rw [ep]
            refine ⟨by simp only [gA_sA, gA_sA_ne, gA_sF, gA_sG, gA_sL, gF_sA, gF_sF, gF_sF_ne, gF_sG, gF_sL, gG_sA, gG_sF, gG_sL, gG_sGe, gG_sG_ne, gL_sA, gL_sF, gL_sG, gL_sLe, gL_sL_ne, u1f_eq, u1f_ne, bnd_iff, not_false_eq_true, Nat.reduceEqDiff], by omega, ?_⟩
            simp only [gA_sA, gA_sA_ne, gA_sF, gA_sG, gA_sL, gF_sA, gF_sF, gF_sF_ne, gF_sG, gF_sL, gG_sA, gG_sF, gG_sL, gG_sGe, gG_sG_ne, gL_sA, gL_sF, gL_sG, gL_sLe, gL_sL_ne, u1f_eq, u1f_ne, bnd_iff, not_false_eq_true, Nat.reduceEqDiff]
            exact h3.2
        · have e5 : w = 105 := by omega
          subst e5
          have n106 : ¬ nI 105 = 106 := by decide
          have ep : pas 105 y (x :: l) = (!x.1, true) :: l := rfl
          have hx : x.2 = false := by
            unfold alw at ha
            rw [if_neg e] at ha
            dsimp only at ha
            rw [decide_eq_false e6, Bool.false_or, Bool.not_eq_true'] at ha
            exact ha
          refine ⟨sA c 23 l.length (stI (!x.1, true) l), fun Q hQ => ?_, fun _ => ?_, (ModC.refl _ _ _ c).sA (by decide) _ _⟩
          · unfold Conditions_pass
            rw [hall, if_neg (by decide), if_neg n104, if_neg n106, hl]
            have e3 : ltI (x :: l) = stI x l := rfl
            rw [e3]
            have p112 : ∀ v : Int32, v ||| 2 = stI (!x.1, true) l → Conditions_pass_112 v c Q := by
              intro v hv
              unfold Conditions_pass_112
              rw [chgC (k := l.length) h1 (by omega), hv]
              exact hQ
            unfold Conditions_pass_93
            have e4 := lt_4 x l
            cases z : dnA l with
            | false =>
              rw [if_pos (e4.mpr z), if_pos rfl, hl, e3]
              refine p112 _ ?_
              unfold stI
              obtain ⟨a, b⟩ := x
              dsimp only at hx
              subst hx
              rw [z]
              cases a <;> decide
            | true =>
              rw [if_neg (fun q => by rw [z] at e4; exact Bool.noConfusion (e4.mp q)), if_neg (by decide), hl, e3]
              refine p112 _ ?_
              unfold stI
              obtain ⟨a, b⟩ := x
              dsimp only at hx
              subst hx
              rw [z]
              cases a <;> decide
          · rw [ep]
            refine ⟨by simp only [gA_sA, gA_sA_ne, gA_sF, gA_sG, gA_sL, gF_sA, gF_sF, gF_sF_ne, gF_sG, gF_sL, gG_sA, gG_sF, gG_sL, gG_sGe, gG_sG_ne, gL_sA, gL_sF, gL_sG, gL_sLe, gL_sL_ne, u1f_eq, u1f_ne, bnd_iff, not_false_eq_true, Nat.reduceEqDiff]; exact h1, h2, ?_, ?_⟩
            · rw [stL_len]
              simp only [gA_sA, gA_sA_ne, gA_sF, gA_sG, gA_sL, gF_sA, gF_sF, gF_sF_ne, gF_sG, gF_sL, gG_sA, gG_sF, gG_sL, gG_sGe, gG_sG_ne, gL_sA, gL_sF, gL_sG, gL_sLe, gL_sL_ne, u1f_eq, u1f_ne, bnd_iff, not_false_eq_true, Nat.reduceEqDiff]
            · simp only [gA_sA, gA_sA_ne, gA_sF, gA_sG, gA_sL, gF_sA, gF_sF, gF_sF_ne, gF_sG, gF_sL, gG_sA, gG_sF, gG_sL, gG_sGe, gG_sG_ne, gL_sA, gL_sF, gL_sG, gL_sLe, gL_sL_ne, u1f_eq, u1f_ne, bnd_iff, not_false_eq_true, Nat.reduceEqDiff]
              exact h3.2.upd _ (by rw [stL_len]; exact Nat.le_refl _)
  · refine ⟨c, fun Q hQ => ?_, fun q => absurd q ha, ModC.refl _ _ _ c⟩
    unfold Conditions_pass
    rw [alwC h hw, Bool.eq_false_iff.mpr ha, if_pos (show kb false = 0 from rfl)]
    exact hQ
