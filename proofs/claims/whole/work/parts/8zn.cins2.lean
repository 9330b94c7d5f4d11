/-! Statements: the class's instructions -/
theorem oFl_T {B : Nat → Nat} {n : Nat} {T : List Tk} (hL : Lx B n T) {N : Nt} {here : Int32} {t ln : Nat} {f : Fl} (ht : t < T.length) (ok : oOk T N here t = true) (hok : OKf f (plaT T t)) : oFl T N here t ln true f = setF ln (match oFr T t with | none => none | some q => xT T N here q) f := by
  rw [oFl_ok ok]
  cases e : oFr T t with
  | none => exact (setF_none _ _).symm
  | some q =>
    obtain ⟨q1, q2, -⟩ := oFr_in hL ht e
    dsimp only
    rw [xfl_set hL q1 (hok.mono (pl_le hL q2 q1)) (xtr_ltT T N here q), if_pos rfl, xF_ok (oOk_x ok e)]
theorem xat_oNx {T : List Tk} {N : Nt} {here : Int32} {t q : Nat} (ok : oOk T N here t = true) (e : oFr T t = some q) : xat T N here q ≤ oNx T N here t := by
  unfold oOk at ok
  rw [e] at ok
  unfold oNx
  cases hc : clo T t with
  | some l =>
    rw [hc] at ok
    dsimp only at ok ⊢
    rw [Bool.and_eq_true, decide_eq_true_eq] at ok
    omega
  | none =>
    rw [e]
    exact Nat.le_refl _
theorem opA_in {B : Nat → Nat} {n : Nat} {T : List Tk} (hL : Lx B n T) {N : Nt} {here : Int32} {t : Nat} (ht : t < T.length) (ok : oOk T N here t = true) : InF (match oFr T t with | none => none | some q => xT T N here q) (plaT T t) (plaT T (oNx T N here t)) := by
  cases e : oFr T t with
  | none => exact InF.none _ _
  | some q =>
    obtain ⟨q1, q2, -⟩ := oFr_in hL ht e
    exact (xT_i hL q1).mono (pl_le hL q2 q1) (pl_le hL (xat_oNx ok e) (oNx_lt hL ht))
theorem opR_in {B : Nat → Nat} {n : Nat} {T : List Tk} (hL : Lx B n T) {N : Nt} {here : Int32} {t : Nat} (ht : t < T.length) (ok : oOk T N here t = true) (c : Nat → Prop) [∀ q, Decidable (c q)] : InF (match oFr T t with | none => none | some q => if c q then some (5, plaT T q) else none) (plaT T t) (plaT T (oNx T N here t)) := by
  cases e : oFr T t with
  | none => exact InF.none _ _
  | some q =>
    obtain ⟨q1, q2, -⟩ := oFr_in hL ht e
    dsimp only
    split
    · exact InF.one (by omega) (by omega) (pl_le hL q2 q1) (Nat.lt_of_lt_of_le (pl_lt hL _ _ (xat_gt (oOk_x ok e)) (exprLt hL q1)) (pl_le hL (xat_oNx ok e) (oNx_lt hL ht)))
    · exact InF.none _ _
theorem opAR (T : List Tk) (N : Nt) (here : Int32) (p h x i : Nat) : opA T N here p i = none ∨ opR T N here p h x i = none := by
  unfold opA opR
  by_cases z : i < lsN T N here p
  · rw [if_pos z, if_pos z]
    cases e : oFr T (lsT T N here p i) with
    | none => exact Or.inl rfl
    | some q =>
      dsimp only
      unfold xT
      by_cases k : (xtr T N here q).1 = 0
      · exact Or.inl (if_pos k)
      · exact Or.inr (if_neg (fun w => k w.1))
  · exact Or.inl (if_neg z)
theorem chkF {B : Nat → Nat} {n : Nat} {T : List Tk} (hL : Lx B n T) {N : Nt} {here : Int32} {t ln h x : Nat} {f : Fl} (h0 : f.2.2 = 0) (ht : t + 1 < T.length) (ok : lsOk T N here (t + 1) = true) : chn ln T N here (t + 1) h x (lsN T N here (t + 1)) 0 (lsFl T N here (t + 1) ln true f) = setF ln (inB T N here t h x) f := by
  obtain ⟨p, hp⟩ : ∃ p, p = t + 1 := ⟨_, rfl⟩
  have hpl : p < T.length := by omega
  unfold inB
  rw [← hp] at ok ⊢
  have x0 := opAR T N here p h x 0
  have x1 := opAR T N here p h x 1
  by_cases k0 : (tk T p).1 = 0
  · have n0 : lsN T N here p = 0 := if_pos k0
    have e1 : lsFl T N here p ln true f = f := by
      unfold lsFl lsX lsG
      simp only [if_pos k0]
    have e2 : ∀ i, opA T N here p i = none ∧ opR T N here p h x i = none := by
      intro i
      unfold opA opR
      rw [n0, if_neg (Nat.not_lt_zero _), if_neg (Nat.not_lt_zero _)]
      exact ⟨rfl, rfl⟩
    rw [n0, e1, (e2 0).1, (e2 0).2, (e2 1).1, (e2 1).2]
    exact (setF_none _ _).symm
  · by_cases o1 : oOk T N here p = true
    · have hnx := oNx_lt hL (N := N) (here := here) hpl
      have A0e : 0 < lsN T N here p → opA T N here p 0 = (match oFr T p with | none => none | some q => xT T N here q) := fun z => if_pos z
      have R0e : 0 < lsN T N here p → opR T N here p h x 0 = (match oFr T p with | none => none | some q => if (xtr T N here q).1 = 0 ∧ ¬ fiI (shF x 0) (cvI T N here p h x 0) = true then some (5, plaT T q) else none) := fun z => if_pos z
      by_cases kc : (tk T (oNx T N here p)).1 = 44
      · by_cases o2 : oOk T N here (oNx T N here p + 1) = true
        · have n2 : lsN T N here p = 2 := by
            unfold lsN
            rw [if_neg k0, if_pos o1, if_pos kc, if_pos o2]
          have hp1 : oNx T N here p + 1 < T.length := more hL hnx (by omega)
          have eX : lsX T N here p = some (oNx T N here (oNx T N here p + 1)) := by
            unfold lsX
            rw [if_neg k0, if_pos o1, if_pos kc, if_pos o2]
          have kz : (tk T (oNx T N here (oNx T N here p + 1))).1 = 0 := by
            unfold lsOk at ok
            rw [eX] at ok
            exact of_decide_eq_true ok
          have A0i := opA_in hL hpl o1
          have R0i := opR_in hL hpl o1 (fun q => (xtr T N here q).1 = 0 ∧ ¬ fiI (shF x 0) (cvI T N here p h x 0) = true)
          have A1i := opA_in hL hp1 o2
          have R1i := opR_in hL hp1 o2 (fun q => (xtr T N here q).1 = 0 ∧ ¬ fiI (shF x 1) (cvI T N here p h x 1) = true)
          have A0e := A0e (by omega)
          have R0e := R0e (by omega)
          have A1e : opA T N here p 1 = (match oFr T (oNx T N here p + 1) with | none => none | some q => xT T N here q) := if_pos (by omega)
          have R1e : opR T N here p h x 1 = (match oFr T (oNx T N here p + 1) with | none => none | some q => if (xtr T N here q).1 = 0 ∧ ¬ fiI (shF x 1) (cvI T N here p h x 1) = true then some (5, plaT T q) else none) := if_pos (by omega)
          rw [← A0e] at A0i
          rw [← R0e] at R0i
          rw [← A1e] at A1i
          rw [← R1e] at R1i
          have hle : plaT T (oNx T N here p) ≤ plaT T (oNx T N here p + 1) := pl_le hL (Nat.le_succ _) hp1
          have e1 : lsFl T N here p ln true f = setF ln (opA T N here p 1) (setF ln (opA T N here p 0) f) := by
            unfold lsFl
            rw [eX]
            dsimp only
            rw [if_pos kz]
            unfold lsG
            rw [if_neg k0, if_pos ⟨o1, kc⟩, oFl_T hL hpl o1 (Or.inl h0), ← A0e, oFl_T hL hp1 o2 ((setF_OK (Or.inl h0) A0i (Nat.le_refl _)).mono hle), ← A1e]
          rw [n2, e1]
          exact chk2 h0 A0i R0i A1i R1i hle x0 x1
        · exfalso
          unfold lsOk lsX at ok
          rw [if_neg k0, if_pos o1, if_pos kc, if_neg o2] at ok
          cases ok
      · have n1 : lsN T N here p = 1 := by
          unfold lsN
          rw [if_neg k0, if_pos o1, if_neg kc]
        have eX : lsX T N here p = some (oNx T N here p) := by
          unfold lsX
          rw [if_neg k0, if_pos o1, if_neg kc]
        have kz : (tk T (oNx T N here p)).1 = 0 := by
          unfold lsOk at ok
          rw [eX] at ok
          exact of_decide_eq_true ok
        have A0i := opA_in hL hpl o1
        have R0i := opR_in hL hpl o1 (fun q => (xtr T N here q).1 = 0 ∧ ¬ fiI (shF x 0) (cvI T N here p h x 0) = true)
        have A0e := A0e (by omega)
        have R0e := R0e (by omega)
        rw [← A0e] at A0i
        rw [← R0e] at R0i
        have e2 : opA T N here p 1 = none ∧ opR T N here p h x 1 = none := by
          unfold opA opR
          rw [n1, if_neg (Nat.lt_irrefl _), if_neg (Nat.lt_irrefl _)]
          exact ⟨rfl, rfl⟩
        have e1 : lsFl T N here p ln true f = setF ln (opA T N here p 0) f := by
          unfold lsFl
          rw [eX]
          dsimp only
          rw [if_pos kz]
          unfold lsG
          rw [if_neg k0, if_neg (fun z => kc z.2), oFl_T hL hpl o1 (Or.inl h0), ← A0e]
        have := chk2 (ln := ln) h0 A0i R0i (InF.none (plaT T (oNx T N here p)) 0) (InF.none (plaT T (oNx T N here p)) 0) (Nat.le_refl _) x0 (Or.inl rfl)
        rw [n1, e1, e2.1, e2.2]
        rw [setF_none] at this
        exact this
    · exfalso
      unfold lsOk lsX at ok
      rw [if_neg k0, if_neg o1] at ok
      cases ok
theorem asr_lt {s : Int32} {k : Nat} (h : asrI s = nI k) (hk : k < 34) : s = nI k := by
  have n34 : ¬ (34 : Int32) = nI k := fun q => by
    have := (nI_eq (a := 34) (b := k) (by omega) (by omega)).mp q
    omega
  have n35 : ¬ (35 : Int32) = nI k := fun q => by
    have := (nI_eq (a := 35) (b := k) (by omega) (by omega)).mp q
    omega
  unfold asrI at h
  split at h
  · split at h
    · exact absurd h n35
    · split at h
      · exact absurd h n35
      · exact h
  · split at h
    · split at h
      · exact absurd h n35
      · split at h
        · exact absurd h n35
        · exact h
    · exact absurd h n34
theorem fi_sm {k : Nat} (hk : k < 32) (v : Int32) : fiI (nI k) v = true := by
  have ne : ∀ m : Nat, m < 100 → 32 ≤ m → ¬ nI k = nI m := fun m h1 h2 q => by
    have := (nI_eq (a := k) (b := m) (by omega) (by omega)).mp q
    omega
  have n1 := ne 32 (by omega) (by omega)
  have n2 := ne 33 (by omega) (by omega)
  have n3 := ne 38 (by omega) (by omega)
  have n4 := ne 36 (by omega) (by omega)
  have n5 := ne 42 (by omega) (by omega)
  have n6 := ne 37 (by omega) (by omega)
  have n7 := ne 43 (by omega) (by omega)
  have n8 : ¬ nI k = 39 := ne 39 (by omega) (by omega)
  have n9 : ¬ nI k = 40 := ne 40 (by omega) (by omega)
  have n10 : ¬ nI k = 41 := ne 41 (by omega) (by omega)
  unfold fiI
  rw [if_neg (fun q => q.elim n1 (fun q => q.elim n2 n3)), if_neg (fun q => q.elim n4 n5), if_neg (fun q => q.elim n6 n7), if_neg n8, if_neg n9, if_neg n10]
theorem oKd_36 (T : List Tk) (t : Nat) : oKd T t < 36 ∧ (oFr T t = none → oKd T t < 32) := by
  unfold oKd oFr
  cases clo T t with
  | none =>
    dsimp only
    by_cases a : alonS T t = true
    · rw [if_pos a, if_pos a]
      unfold alonS at a
      rw [Bool.and_eq_true, Bool.and_eq_true, decide_eq_true_eq, decide_eq_true_eq] at a
      exact ⟨by omega, fun _ => by omega⟩
    · rw [if_neg a, if_neg a]
      exact ⟨by omega, fun q => by cases q⟩
  | some l =>
    dsimp only
    have := pOf_lt (nmI T (t + 1))
    by_cases a : atS T t l = true
    · rw [if_pos a, if_pos a]
      exact ⟨by omega, fun _ => by omega⟩
    · rw [if_neg a, if_neg a]
      by_cases b : nearS T t = true
      · rw [if_pos b, if_pos b]
        exact ⟨by split <;> omega, fun q => by cases q⟩
      · rw [if_neg b, if_neg b]
        exact ⟨by omega, fun q => by cases q⟩
theorem adjK_lt {w k : Nat} : (k < 32 → adjK w k < 34) ∧ (k < 36 → adjK w k < 36) ∧ adjK w 0 = 0 := by
  unfold adjK
  refine ⟨fun h => ?_, fun h => ?_, ?_⟩
  · repeat' split
    all_goals omega
  · repeat' split
    all_goals omega
  · split
    · rfl
    · rfl
theorem noFi {T : List Tk} {N : Nt} {here : Int32} {t w x h : Nat} (hw : w < 107) (hX : inX T N here t w = some x) {i : Nat} (hi : i < lsN T N here (t + 1)) (e : oFr T (lsT T N here (t + 1) i) = none) : fiI (shF x i) (cvI T N here (t + 1) h x i) = true := by
  obtain ⟨-, -, -, a0, a1, -⟩ := inX_ok hw hX
  have h2 := lsN_2 T N here (t + 1)
  have hk : kdN T N here (t + 1) i = oKd T (lsT T N here (t + 1) i) := if_pos hi
  have hlt := (oKd_36 T (lsT T N here (t + 1) i)).2 e
  have ha : asrI (shF x i) = nI (adjK w (kdN T N here (t + 1) i)) := by
    have : i = 0 ∨ i = 1 := by omega
    rcases this with rfl | rfl
    · exact a0
    · exact a1
  have hl := (adjK_lt (w := w) (k := kdN T N here (t + 1) i)).1 (by omega)
  have hs := asr_lt ha hl
  have hv : vlI T N here (t + 1) i = 0 := by
    unfold vlI
    rw [if_pos hi, e]
  have h38 : ¬ shF x i = 38 := by
    rw [hs]
    intro q
    have := (nI_eq (b := 38) (by omega) (by omega)).mp q
    omega
  have hc : cvI T N here (t + 1) h x i = 0 := by
    unfold cvI
    rw [if_neg h38, hv]
  rw [hc, hs]
  by_cases z : adjK w (kdN T N here (t + 1) i) < 32
  · exact fi_sm z 0
  · have : adjK w (kdN T N here (t + 1) i) = 32 ∨ adjK w (kdN T N here (t + 1) i) = 33 := by omega
    rcases this with q | q <;> rw [q] <;> decide
theorem shF_0 {T : List Tk} {N : Nt} {here : Int32} {t w x : Nat} (hw : w < 107) (hX : inX T N here t w = some x) {i : Nat} (hi2 : i < 2) (hi : lsN T N here (t + 1) ≤ i) : shF x i = 0 := by
  obtain ⟨-, -, -, a0, a1, -⟩ := inX_ok hw hX
  have hk : kdN T N here (t + 1) i = 0 := if_neg (by omega)
  have ha : asrI (shF x i) = nI (adjK w (kdN T N here (t + 1) i)) := by
    have : i = 0 ∨ i = 1 := by omega
    rcases this with rfl | rfl
    · exact a0
    · exact a1
  rw [hk, (adjK_lt (w := w) (k := 0)).2.2] at ha
  exact asr_lt (k := 0) ha (by omega)
