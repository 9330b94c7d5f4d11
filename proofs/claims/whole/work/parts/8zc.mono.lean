/-! An exp under other names, and under more names -/
def nv : Nt → Nat → Option Int32
  | [], _ => none
  | x :: N, K => if x.1 = K then some x.2 else nv N K
theorem nv_fnd (K : Nat) : ∀ N : Nt, nv N K = if h : fnd K N < N.length then some (N[fnd K N]).2 else none := by
  intro N
  induction N with
  | nil => rfl
  | cons x N ih =>
    by_cases e : x.1 = K
    · have e0 : fnd K (x :: N) = 0 := by unfold fnd; rw [if_pos e]
      have e1 : nv (x :: N) K = some x.2 := by unfold nv; rw [if_pos e]
      rw [e1]
      simp only [e0, List.length_cons, Nat.zero_lt_succ, dif_pos, List.getElem_cons_zero]
    · have e0 : fnd K (x :: N) = fnd K N + 1 := by show (if x.1 = K then 0 else fnd K N + 1) = _; rw [if_neg e]
      have e1 : nv (x :: N) K = nv N K := by show (if x.1 = K then some x.2 else nv N K) = _; rw [if_neg e]
      rw [e1, ih]
      simp only [e0, List.length_cons, Nat.add_lt_add_iff_right, List.getElem_cons_succ]
theorem nv_none (K : Nat) (N : Nt) : nv N K = none ↔ ¬ fnd K N < N.length := by
  rw [nv_fnd]
  by_cases h : fnd K N < N.length
  · rw [dif_pos h]
    exact ⟨fun q => (by cases q), fun q => absurd h q⟩
  · rw [dif_neg h]
    exact ⟨fun _ => h, fun _ => rfl⟩
def NSub (N N' : Nt) : Prop := ∀ K v, nv N K = some v → nv N' K = some v
theorem NSub.refl (N : Nt) : NSub N N := fun _ _ h => h
theorem NSub.trans {N N' N'' : Nt} (h : NSub N N') (h' : NSub N' N'') : NSub N N'' := fun K v q => h' K v (h K v q)
theorem NSub.app (M : Nt) : ∀ N : Nt, NSub N (N ++ M) := by
  intro N
  induction N with
  | nil => intro K v q; cases q
  | cons x N ih =>
    intro K v q
    have e1 : nv (x :: N ++ M) K = if x.1 = K then some x.2 else nv (N ++ M) K := rfl
    have e2 : nv (x :: N) K = if x.1 = K then some x.2 else nv N K := rfl
    rw [e1]
    rw [e2] at q
    by_cases e : x.1 = K
    · rw [if_pos e] at q ⊢
      exact q
    · rw [if_neg e] at q ⊢
      exact ih K v q
theorem xval_nv (T : List Tk) (N : Nt) (here : Int32) (t : Nat) : xval T N here t = if (tk T t).1 = 3 then some (nI (tk T t).2.2.2, true) else if (tk T t).1 = 2 then (if 0 < idN (tk T t).2.2.2 then none else match nv N (tk T t).2.2.2 with | some v => some (v, true) | none => some (0, false)) else if (tk T t).1 = 64 then some (here, true) else none := by
  unfold xval
  rw [nv_fnd]
  by_cases h : fnd (tk T t).2.2.2 N < N.length
  · rw [dif_pos h, dif_pos h]
  · rw [dif_neg h, dif_neg h]
theorem xval_none {T : List Tk} (N N' : Nt) {here : Int32} {t : Nat} (h : xval T N here t = none) : xval T N' here t = none := by
  rw [xval_nv] at h ⊢
  by_cases a : (tk T t).1 = 3
  · rw [if_pos a] at h
    cases h
  · rw [if_neg a] at h ⊢
    by_cases b : (tk T t).1 = 2
    · rw [if_pos b] at h ⊢
      by_cases c : 0 < idN (tk T t).2.2.2
      · rw [if_pos c]
      · rw [if_neg c] at h
        cases e : nv N (tk T t).2.2.2 with
        | none => rw [e] at h; cases h
        | some v => rw [e] at h; cases h
    · rw [if_neg b] at h ⊢
      exact h
theorem stl_os (L : Nat) : ∀ (os : List Op) (v v' : List Vl) (tr tr' : Nat × Nat), (stl L os v tr).1 = (stl L os v' tr').1 := by
  intro os
  induction os with
  | nil => intro v v' tr tr'; rfl
  | cons o os ih =>
    intro v v' tr tr'
    unfold stl
    by_cases e : lev o.1 < L
    · rw [if_pos e, if_pos e]
    · rw [if_neg e, if_neg e]
      exact ih _ _ _ _
/-- where an exp ends doesn't hang on the names -/
theorem xrun_st (T : List Tk) (N N' : Nt) (here : Int32) : ∀ (f : Nat) (w : Bool) (os : List Op) (v v' : List Vl) (tr tr' : Nat × Nat) (t : Nat), (xrun T N here f w os v tr t).1 = (xrun T N' here f w os v' tr' t).1 ∧ (xrun T N here f w os v tr t).2.1 = (xrun T N' here f w os v' tr' t).2.1 ∧ (xrun T N here f w os v tr t).2.2.1 = (xrun T N' here f w os v' tr' t).2.2.1 := by
  intro f
  induction f with
  | zero => intro w os v v' tr tr' t; exact ⟨rfl, rfl, rfl⟩
  | succ f ih =>
    intro w os v v' tr tr' t
    unfold xrun
    by_cases a : w = true
    · rw [if_pos a, if_pos a]
      by_cases b : (tk T t).1 = 40 ∨ (tk T t).1 = 126 ∨ (tk T t).1 = 45
      · rw [if_pos b, if_pos b]
        by_cases c : 40 ≤ opn os
        · rw [if_pos c, if_pos c]
          exact ⟨rfl, rfl, rfl⟩
        · rw [if_neg c, if_neg c]
          exact ih _ _ _ _ _ _ _
      · rw [if_neg b, if_neg b]
        cases e : xval T N here t with
        | none =>
          rw [xval_none N N' e]
          exact ⟨rfl, rfl, rfl⟩
        | some x =>
          cases e' : xval T N' here t with
          | none =>
            rw [xval_none N' N e'] at e
            cases e
          | some x' =>
            dsimp only
            rw [stl_os 6 os (x :: v) (x' :: v') (tro x tr t) (tro x' tr' t)]
            exact ih _ _ _ _ _ _ _
    · rw [if_neg a, if_neg a]
      by_cases b : (tk T t).1 = 41 ∧ 0 < parn os
      · rw [if_pos b, if_pos b]
        have e1 := stl_os 1 os v v' tr tr'
        rw [e1, stl_os 6 (stl 1 os v' tr').1.tail (stl 1 os v tr).2.1 (stl 1 os v' tr').2.1 (stl 1 os v tr).2.2 (stl 1 os v' tr').2.2]
        exact ih _ _ _ _ _ _ _
      · rw [if_neg b, if_neg b]
        by_cases c : 0 < lev (tk T t).1 ∧ lev (tk T t).1 < 7
        · rw [if_pos c, if_pos c, stl_os (lev (tk T t).1) os v v' tr tr']
          exact ih _ _ _ _ _ _ _
        · rw [if_neg c, if_neg c]
          exact ⟨rfl, rfl, rfl⟩
/-- an exp without trouble is the same under more names -/
theorem xrun_mono (T : List Tk) {N N' : Nt} (hN : NSub N N') (here : Int32) : ∀ (f : Nat) (w : Bool) (os : List Op) (v : List Vl) (tr : Nat × Nat) (t : Nat), (xrun T N here f w os v tr t).2.2.2.2.1 = 0 → xrun T N' here f w os v tr t = xrun T N here f w os v tr t := by
  intro f
  induction f with
  | zero => intro w os v tr t h; rfl
  | succ f ih =>
    intro w os v tr t h
    unfold xrun at h ⊢
    by_cases a : w = true
    · rw [if_pos a] at h
      rw [if_pos a, if_pos a]
      by_cases b : (tk T t).1 = 40 ∨ (tk T t).1 = 126 ∨ (tk T t).1 = 45
      · rw [if_pos b] at h
        rw [if_pos b, if_pos b]
        by_cases c : 40 ≤ opn os
        · rw [if_pos c, if_pos c]
        · rw [if_neg c] at h
          rw [if_neg c, if_neg c]
          exact ih _ _ _ _ _ h
      · rw [if_neg b] at h
        rw [if_neg b, if_neg b]
        cases e : xval T N here t with
        | none => rw [xval_none N N' e]
        | some x =>
          rw [e] at h
          dsimp only at h
          have hx : x.2 = true := by
            cases q : x.2 with
            | true => rfl
            | false =>
              exfalso
              have h2 : ¬ (tro x tr t).1 = 0 := by
                unfold tro
                by_cases z : tr.1 = 0
                · rw [if_pos ⟨q, z⟩]
                  exact fun w => by cases w
                · rw [if_neg (fun w => z w.2)]
                  exact z
              rw [stl_keep 6 os (x :: v) _ h2, xrun_keep f _ _ _ _ _ h2] at h
              exact h2 h
          have e' : xval T N' here t = some x := by
            rw [xval_nv] at e ⊢
            by_cases a3 : (tk T t).1 = 3
            · rw [if_pos a3] at e ⊢
              exact e
            · rw [if_neg a3] at e ⊢
              by_cases b3 : (tk T t).1 = 2
              · rw [if_pos b3] at e ⊢
                by_cases c3 : 0 < idN (tk T t).2.2.2
                · rw [if_pos c3] at e
                  cases e
                · rw [if_neg c3] at e ⊢
                  cases e4 : nv N (tk T t).2.2.2 with
                  | none =>
                    rw [e4] at e
                    have e5 : x = (0, false) := (Option.some.inj e).symm
                    rw [e5] at hx
                    cases hx
                  | some v4 =>
                    rw [e4] at e
                    rw [hN _ _ e4]
                    exact e
              · rw [if_neg b3] at e ⊢
                exact e
          rw [e']
          dsimp only
          exact ih _ _ _ _ _ h
    · rw [if_neg a] at h
      rw [if_neg a, if_neg a]
      by_cases b : (tk T t).1 = 41 ∧ 0 < parn os
      · rw [if_pos b] at h
        rw [if_pos b, if_pos b]
        exact ih _ _ _ _ _ h
      · rw [if_neg b] at h
        rw [if_neg b, if_neg b]
        by_cases c : 0 < lev (tk T t).1 ∧ lev (tk T t).1 < 7
        · rw [if_pos c] at h
          rw [if_pos c, if_pos c]
          exact ih _ _ _ _ _ h
        · rw [if_neg c, if_neg c]
theorem xok_N (T : List Tk) (N N' : Nt) (here : Int32) (t : Nat) : xok T N here t = xok T N' here t := by
  unfold xok xend
  obtain ⟨a, _, b⟩ := xrun_st T N N' here (T.length - t) true [] [] [] (0, 0) (0, 0) t
  rw [a, b]
theorem xat_N (T : List Tk) (N N' : Nt) (here : Int32) (t : Nat) : xat T N here t = xat T N' here t := (xrun_st T N N' here (T.length - t) true [] [] [] (0, 0) (0, 0) t).2.1
theorem xend_M {T : List Tk} {N N' : Nt} (hN : NSub N N') {here : Int32} {t : Nat} (h : (xtr T N here t).1 = 0) : xend T N' here t = xend T N here t := by
  refine xrun_mono T hN here _ _ _ _ _ _ ?_
  show (xend T N here t).2.2.2.2.1 = 0
  unfold xtr at h
  by_cases a : xok T N here t = true
  · rw [if_pos a] at h
    refine Decidable.byContradiction fun q => ?_
    rw [stl_keep 1 _ _ _ q] at h
    exact q h
  · rw [if_neg a] at h
    exact h
theorem xtr_M {T : List Tk} {N N' : Nt} (hN : NSub N N') {here : Int32} {t : Nat} (h : (xtr T N here t).1 = 0) : xtr T N' here t = xtr T N here t := by
  have e := xend_M hN h
  unfold xtr xok
  rw [e]
theorem xvl_M {T : List Tk} {N N' : Nt} (hN : NSub N N') {here : Int32} {t : Nat} (h : (xtr T N here t).1 = 0) : xvl T N' here t = xvl T N here t := by
  have e := xend_M hN h
  unfold xvl
  rw [e]
theorem oOk_N (T : List Tk) (N N' : Nt) (here : Int32) (t : Nat) : oOk T N here t = oOk T N' here t := by
  unfold oOk
  cases oFr T t with
  | none => rfl
  | some q =>
    dsimp only
    rw [xok_N T N N' here q, xat_N T N N' here q]
theorem oNx_N (T : List Tk) (N N' : Nt) (here : Int32) (t : Nat) : oNx T N here t = oNx T N' here t := by
  unfold oNx
  cases clo T t with
  | some l => rfl
  | none =>
    cases oFr T t with
    | none => rfl
    | some q => exact xat_N T N N' here q
theorem oXa_N (T : List Tk) (N N' : Nt) (here : Int32) (t : Nat) : oXa T N here t = oXa T N' here t := by
  unfold oXa
  cases oFr T t with
  | none => rfl
  | some q => exact xat_N T N N' here q
theorem lsX_N (T : List Tk) (N N' : Nt) (here : Int32) (t : Nat) : lsX T N here t = lsX T N' here t := by
  unfold lsX
  rw [oOk_N T N N' here t, oNx_N T N N' here t, oOk_N T N N' here, oNx_N T N N' here]
theorem lsN_N (T : List Tk) (N N' : Nt) (here : Int32) (t : Nat) : lsN T N here t = lsN T N' here t := by
  unfold lsN
  rw [oOk_N T N N' here t, oNx_N T N N' here t, oOk_N T N N' here]
theorem lsT_N (T : List Tk) (N N' : Nt) (here : Int32) (t i : Nat) : lsT T N here t i = lsT T N' here t i := by
  unfold lsT
  rw [oNx_N T N N' here t]
theorem lsOk_N (T : List Tk) (N N' : Nt) (here : Int32) (t : Nat) : lsOk T N here t = lsOk T N' here t := by
  unfold lsOk
  rw [lsX_N T N N' here t]
theorem lsB_N (T : List Tk) (N N' : Nt) (here : Int32) (t : Nat) : lsB T N here t = lsB T N' here t := by
  unfold lsB
  rw [lsX_N T N N' here t, oOk_N T N N' here t, oXa_N T N N' here t, oNx_N T N N' here t, oXa_N T N N' here]
