/-! Statements: the class reads a number -/
theorem xrun_w {T : List Tk} {N : Nt} {here : Int32} : ∀ (f : Nat) (os : List Op) (v : List Vl) (tr : Nat × Nat) (t : Nat), (xrun T N here f true os v tr t).1 = false → t < (xrun T N here f true os v tr t).2.1 := by
  intro f os v tr t h
  cases f with
  | zero => exact Bool.noConfusion h
  | succ f =>
    unfold xrun at h ⊢
    rw [if_pos rfl] at h ⊢
    by_cases b : (tk T t).1 = 40 ∨ (tk T t).1 = 126 ∨ (tk T t).1 = 45
    · rw [if_pos b] at h ⊢
      by_cases c : 40 ≤ opn os
      · rw [if_pos c] at h
        exact Bool.noConfusion h
      · rw [if_neg c]
        exact Nat.lt_of_lt_of_le (Nat.lt_succ_self t) (xrun_le _ _ _ _ _ _)
    · rw [if_neg b] at h ⊢
      cases e : xval T N here t with
      | none =>
        rw [e] at h
        exact Bool.noConfusion h
      | some x => exact Nat.lt_of_lt_of_le (Nat.lt_succ_self t) (xrun_le _ _ _ _ _ _)
theorem xat_gt {T : List Tk} {N : Nt} {here : Int32} {t : Nat} (h : xok T N here t = true) : t < xat T N here t := by
  unfold xok at h
  rw [Bool.and_eq_true, Bool.not_eq_true'] at h
  exact xrun_w _ _ _ _ _ h.1
theorem xat_ge {T : List Tk} {N : Nt} {here : Int32} {t : Nat} : t ≤ xat T N here t := xrun_le _ _ _ _ _ _
theorem xT_in {B : Nat → Nat} {n : Nat} {T : List Tk} (hL : Lx B n T) {N : Nt} {here : Int32} {t : Nat} (ht : t < T.length) (htr : ¬ (xtr T N here t).1 = 0 → (xtr T N here t).2 < xat T N here t) (h6 : (xtr T N here t).1 < 6) : InF (xT T N here t) (plaT T t) (plaT T (xat T N here t)) := by
  have hx : xat T N here t < T.length := exprLt hL ht
  unfold xT
  by_cases z : (xtr T N here t).1 = 0
  · rw [if_pos z]
    exact InF.none _ _
  · rw [if_neg z]
    have := htr z
    exact InF.one (by omega) (by omega) (pl_le hL (xtr_ge T N here t z) (by omega)) (pl_lt hL _ _ this hx)
theorem xS_in {B : Nat → Nat} {n : Nat} {T : List Tk} (hL : Lx B n T) {N : Nt} {here : Int32} {t : Nat} (ht : t < T.length) : InF (xS T N here t) (plaT T t) (plaT T (xat T N here t) + 1) := by
  unfold xS
  split
  · exact InF.none _ _
  · exact InF.one (rfc_12 _ _).1 (rfc_12 _ _).2 (pl_le hL xat_ge (exprLt hL ht)) (Nat.lt_succ_self _)
theorem xF_in {B : Nat → Nat} {n : Nat} {T : List Tk} (hL : Lx B n T) {N : Nt} {here : Int32} {t : Nat} (ht : t < T.length) (htr : ¬ (xtr T N here t).1 = 0 → (xtr T N here t).2 < xat T N here t) (h6 : (xtr T N here t).1 < 6) : InF (xF T N here t) (plaT T t) (plaT T (xat T N here t) + 1) := ((xT_in hL ht htr h6).mono (Nat.le_refl _) (Nat.le_succ _)).th (xS_in hL ht)
theorem xF_ok {T : List Tk} {N : Nt} {here : Int32} {t : Nat} (h : xok T N here t = true) : xF T N here t = xT T N here t := by
  unfold xF xS
  rw [if_pos h, thF_n]
theorem xF_none {T : List Tk} {N : Nt} {here : Int32} {t : Nat} (h : xF T N here t = none) : (xtr T N here t).1 = 0 ∧ xok T N here t = true := by
  obtain ⟨a, b⟩ := thF_eq h
  constructor
  · unfold xT at a
    by_cases z : (xtr T N here t).1 = 0
    · exact z
    · rw [if_neg z] at a
      cases a
  · unfold xS at b
    by_cases z : xok T N here t = true
    · exact z
    · rw [if_neg z] at b
      cases b
theorem xS_none {T : List Tk} {N : Nt} {here : Int32} {t : Nat} (h : xS T N here t = none) : xok T N here t = true := by
  unfold xS at h
  by_cases z : xok T N here t = true
  · exact z
  · rw [if_neg z] at h
    cases h
theorem xfl_set {B : Nat → Nat} {n : Nat} {T : List Tk} (hL : Lx B n T) {N : Nt} {here : Int32} {t ln : Nat} {rep : Bool} {f : Fl} (ht : t < T.length) (hok : OKf f (plaT T t)) (htr : ¬ (xtr T N here t).1 = 0 → (xtr T N here t).2 < xat T N here t) : xfl T N here t ln rep f = setF ln (if rep = true then xF T N here t else xS T N here t) f := by
  have hx : xat T N here t < T.length := exprLt hL ht
  have hxk := hok.mono (pl_le hL (xat_ge (N := N) (here := here)) hx)
  have key : xT T N here t = none ∨ rep = false → (if xok T N here t = true then f else addF f ln (tk T (xat T N here t)).2.1 (rfc T (xat T N here t))) = setF ln (xS T N here t) f := by
    intro _
    unfold xS
    by_cases ok : xok T N here t = true
    · rw [if_pos ok, if_pos ok, setF_none]
    · rw [if_neg ok, if_neg ok]
      exact setF_add hxk
  by_cases z : (xtr T N here t).1 = 0
  · have e1 : xT T N here t = none := if_pos z
    have e2 : (if rep = true then xF T N here t else xS T N here t) = xS T N here t := by
      unfold xF
      rw [e1, thF_none]
      split <;> rfl
    rw [e2]
    unfold xfl
    rw [if_neg (fun q => q.2 z)]
    exact key (Or.inl e1)
  · cases rep with
    | false =>
      unfold xfl
      rw [if_neg (fun q => Bool.noConfusion q.1), if_neg Bool.false_ne_true]
      exact key (Or.inr rfl)
    | true =>
      have hge := xtr_ge T N here t z
      have hlt := htr z
      have htk := hok.mono (pl_le hL hge (by omega))
      have e : xF T N here t = some ((xtr T N here t).1, plaT T (xtr T N here t).2) := by
        unfold xF xT
        rw [if_neg z, thF_some]
      rw [if_pos rfl, e]
      unfold xfl
      rw [if_pos ⟨rfl, z⟩]
      by_cases ok : xok T N here t = true
      · rw [if_pos ok]
        exact setF_add htk
      · rw [if_neg ok]
        by_cases z0 : f.2.2 = 0
        · have h1 : addF f ln (tk T (xat T N here t)).2.1 (rfc T (xat T N here t)) = (ln, plaT T (xat T N here t), rfc T (xat T N here t)) := if_pos (Or.inl z0)
          rw [h1]
          unfold addF setF
          rw [if_pos z0]
          exact if_pos (Or.inr (Or.inl (pl_lt hL _ _ hlt hx)))
        · have h1 : addF f ln (tk T (xat T N here t)).2.1 (rfc T (xat T N here t)) = f := by
            show addF f ln (plaT T (xat T N here t)) (rfc T (xat T N here t)) = f
            rw [setF_add hxk]
            exact if_neg z0
          rw [h1]
          exact setF_add htk
theorem valC {c : vmD} (Q : Int32 → vmD → Prop) : Expression_value c Q = Q (gA c 31 0) c := propext bnd_iff
/-- a number: its FAULTS in its own pass, and in others -/
def nmF (T : List Tk) (N : Nt) (here : Int32) (t : Nat) (lo hi : Int32) : Fo := thF (xF T N here t) (rgF (xvl T N here t) lo hi (plaT T t))
theorem nmbC {B : Nat → Nat} {n : Nat} {T : List Tk} {N : Nt} {ln : Nat} {here : Int32} {rep : Bool} {t : Nat} {c : vmD} {f : Fl} (hLn : LnC B n c T N ln) (hF : FltC c f) (ht : t < T.length) (hok : OKf f (plaT T t)) {ps : Nat} {lo hi : Int32} (hh : gF c 20 11 = here) (hrep : rep = decide (gF c 20 9 = nI ps)) : ∃ c', (∀ Q : Int32 → vmD → Prop, Q (if xok T N here t = true then nI (xat T N here t) else -1) c' → Forger_readNumber (nI t) (nI ps) lo hi c Q) ∧ FltC c' (setF ln (if rep = true then nmF T N here t lo hi else xS T N here t) f) ∧ (xok T N here t = true → gA c' 31 0 = xvl T N here t) ∧ ModC XFF XA [] c c' ∧ InF (if rep = true then nmF T N here t lo hi else xS T N here t) (plaT T t) (plaT T (xat T N here t) + 1) ∧ (xok T N here t = true → InF (if rep = true then nmF T N here t lo hi else xS T N here t) (plaT T t) (plaT T (xat T N here t))) := by
  have hL := hLn.2.1
  have hTl := hL.2.1
  obtain ⟨c1, E1, F1, V1, M1, l1, l2, l3, l6⟩ := readC (rep := rep) (here := here) hLn hF ht
  rw [xfl_set hL ht hok l3] at F1
  have w1 : gF c1 20 9 = gF c 20 9 := M1.1 20 9 (by decide)
  have hLn1 : LnC B n c1 T N ln := hLn.mod M1 (by decide) (by decide) (by decide)
  have p1 : plaT T t < plaT T (xat T N here t) + 1 := Nat.lt_succ_of_le (pl_le hL l1 l2)
  have i1 : InF (if rep = true then nmF T N here t lo hi else xS T N here t) (plaT T t) (plaT T (xat T N here t) + 1) := by
    split
    · exact (xF_in hL ht l3 l6).th (rgF_in (Nat.le_refl _) p1)
    · exact xS_in hL ht
  have i2 : xok T N here t = true → InF (if rep = true then nmF T N here t lo hi else xS T N here t) (plaT T t) (plaT T (xat T N here t)) := by
    intro ok
    have p2 := pl_lt hL _ _ (xat_gt ok) l2
    split
    · unfold nmF
      rw [xF_ok ok]
      exact (xT_in hL ht l3 l6).th (rgF_in (Nat.le_refl _) p2)
    · unfold xS
      rw [if_pos ok]
      exact InF.none _ _
  have start : ∀ Q : Int32 → vmD → Prop, (∀ d, d = c1 → (fun r_3 d_2 => Expression_value d_2 fun r_5 d_4 => if r_3 < 0 then (Q r_3 d_4) else (if (gF d_4 20 9) = nI ps then (Expression_known d_4 fun r_9 d_8 => if r_9 = 0 then (Q r_3 d_8) else (if r_5 < lo then (Forger_readNumber_72 (nI t) r_3 d_8 Q) else (if hi < r_5 then (Forger_readNumber_72 (nI t) r_3 d_8 Q) else (Q r_3 d_8)))) else (Q r_3 d_4))) (if xok T N here t = true then nI (xat T N here t) else -1) d) → Forger_readNumber (nI t) (nI ps) lo hi c Q := by
    intro Q hQ
    unfold Forger_readNumber
    by_cases w : gF c 20 9 = nI ps
    · rw [if_pos w]
      rw [decide_eq_true w] at hrep
      subst hrep
      unfold Forger_readNumber_22
      rw [hh]
      exact E1 _ (hQ c1 rfl)
    · rw [if_neg w]
      rw [decide_eq_false w] at hrep
      subst hrep
      unfold Forger_readNumber_22
      rw [hh]
      exact E1 _ (hQ c1 rfl)
  by_cases ok : xok T N here t = true
  · have v1 := V1 ok
    have hneg : ¬ nI (xat T N here t) < 0 := nI_pos (by omega)
    have stop : ∀ Q : Int32 → vmD → Prop, ¬ (rep = true ∧ (xtr T N here t).1 = 0) → Q (nI (xat T N here t)) c1 → Forger_readNumber (nI t) (nI ps) lo hi c Q := by
      intro Q hz hQ
      refine start Q (fun d hd => ?_)
      subst hd
      rw [valC, if_pos ok, if_neg hneg]
      by_cases w : gF d 20 9 = nI ps
      · rw [if_pos w]
        have : rep = true := by rw [hrep, ← w1, decide_eq_true w]
        have hz0 : ¬ (xtr T N here t).1 = 0 := fun q => hz ⟨this, q⟩
        refine bnd_iff.mpr ?_
        rw [v1.2, decide_eq_false hz0]
        refine ⟨Or.inl rfl, ?_⟩
        dsimp only
        rw [if_pos (show kb false = 0 from rfl)]
        exact hQ
      · rw [if_neg w]
        exact hQ
    by_cases hz : rep = true ∧ (xtr T N here t).1 = 0
    · have w : gF c 20 9 = nI ps := by
        have := hz.1
        rw [hrep] at this
        exact of_decide_eq_true this
      have e0 : xF T N here t = none := by
        rw [xF_ok ok]
        exact if_pos hz.2
      rw [if_pos hz.1, e0, setF_none] at F1
      have go : ∀ Q : Int32 → vmD → Prop, (if xvl T N here t < lo then (Forger_readNumber_72 (nI t) (nI (xat T N here t)) c1 Q) else (if hi < xvl T N here t then (Forger_readNumber_72 (nI t) (nI (xat T N here t)) c1 Q) else (Q (nI (xat T N here t)) c1))) → Forger_readNumber (nI t) (nI ps) lo hi c Q := by
        intro Q hQ
        refine start Q (fun d hd => ?_)
        subst hd
        rw [valC, if_pos ok, if_neg hneg, w1, if_pos w]
        refine bnd_iff.mpr ?_
        rw [v1.2, decide_eq_true hz.2, v1.1]
        refine ⟨Or.inr rfl, ?_⟩
        dsimp only
        rw [if_neg (show ¬ kb true = 0 by decide)]
        exact hQ
      have bad : rgF (xvl T N here t) lo hi (plaT T t) = some (5, plaT T t) → (∀ Q : Int32 → vmD → Prop, Forger_readNumber_72 (nI t) (nI (xat T N here t)) c1 Q → Forger_readNumber (nI t) (nI ps) lo hi c Q) → ∃ c', (∀ Q : Int32 → vmD → Prop, Q (if xok T N here t = true then nI (xat T N here t) else -1) c' → Forger_readNumber (nI t) (nI ps) lo hi c Q) ∧ FltC c' (setF ln (if rep = true then nmF T N here t lo hi else xS T N here t) f) ∧ (xok T N here t = true → gA c' 31 0 = xvl T N here t) ∧ ModC XFF XA [] c c' ∧ InF (if rep = true then nmF T N here t lo hi else xS T N here t) (plaT T t) (plaT T (xat T N here t) + 1) ∧ (xok T N here t = true → InF (if rep = true then nmF T N here t lo hi else xS T N here t) (plaT T t) (plaT T (xat T N here t))) := by
        intro hr hgo
        obtain ⟨c2, E2, F2, M2⟩ := blameC hLn1 F1 (t := t) (k := 5) (by omega) (by omega)
        refine ⟨c2, fun Q hQ => hgo Q ?_, ?_, fun _ => ?_, M1.trans (M2.mono (by decide) (by decide) (by decide)), i1, i2⟩
        · unfold Forger_readNumber_72
          rw [if_pos ok] at hQ
          exact E2 _ hQ
        · rw [if_pos hz.1]
          unfold nmF
          rw [e0, thF_none, hr, ← setF_add hok]
          exact F2
        · rw [M2.2.1 31 (by decide)]
          exact v1.1
      by_cases g1 : xvl T N here t < lo
      · exact bad (if_pos g1) (fun Q hQ => go Q (by rw [if_pos g1]; exact hQ))
      · by_cases g2 : hi < xvl T N here t
        · exact bad ((if_neg g1).trans (if_pos g2)) (fun Q hQ => go Q (by rw [if_neg g1, if_pos g2]; exact hQ))
        · refine ⟨c1, fun Q hQ => go Q ?_, ?_, fun _ => v1.1, M1, i1, i2⟩
          · rw [if_pos ok] at hQ
            rw [if_neg g1, if_neg g2]
            exact hQ
          · rw [if_pos hz.1]
            unfold nmF rgF
            rw [e0, thF_none, if_neg g1, if_neg g2, setF_none]
            exact F1
    · refine ⟨c1, fun Q hQ => stop Q hz (by rw [if_pos ok] at hQ; exact hQ), ?_, fun _ => v1.1, M1, i1, i2⟩
      have e : (if rep = true then nmF T N here t lo hi else xS T N here t) = (if rep = true then xF T N here t else xS T N here t) := by
        by_cases q : rep = true
        · rw [if_pos q, if_pos q]
          have hz0 : ¬ (xtr T N here t).1 = 0 := fun w => hz ⟨q, w⟩
          unfold nmF xF xT
          rw [if_neg hz0, thF_some, thF_some]
        · rw [if_neg q, if_neg q]
      rw [e]
      exact F1
  · refine ⟨c1, fun Q hQ => start Q (fun d hd => ?_), ?_, fun q => absurd q ok, M1, i1, i2⟩
    · subst hd
      rw [valC]
      rw [if_neg ok] at hQ ⊢
      rw [if_pos (by decide)]
      exact hQ
    · have e : (if rep = true then nmF T N here t lo hi else xS T N here t) = (if rep = true then xF T N here t else xS T N here t) := by
        by_cases q : rep = true
        · rw [if_pos q, if_pos q]
          unfold nmF
          have : ∃ z, xF T N here t = some z := by
            unfold xF xS
            rw [if_neg ok]
            cases xT T N here t with
            | none => exact ⟨_, rfl⟩
            | some z => exact ⟨_, rfl⟩
          obtain ⟨z, hz⟩ := this
          rw [hz, thF_some]
        · rw [if_neg q, if_neg q]
      rw [e]
      exact F1
