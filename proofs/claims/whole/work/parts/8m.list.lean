/-! Operands: a statement's list of them -/
def lsX (T : List Tk) (N : Nt) (here : Int32) (t : Nat) : Option Nat := if (tk T t).1 = 0 then some t else if oOk T N here t = true then (if (tk T (oNx T N here t)).1 = 44 then (if oOk T N here (oNx T N here t + 1) = true then some (oNx T N here (oNx T N here t + 1)) else none) else some (oNx T N here t)) else none
def lsN (T : List Tk) (N : Nt) (here : Int32) (t : Nat) : Nat := if (tk T t).1 = 0 then 0 else if oOk T N here t = true then (if (tk T (oNx T N here t)).1 = 44 then (if oOk T N here (oNx T N here t + 1) = true then 2 else 1) else 1) else 0
def lsT (T : List Tk) (N : Nt) (here : Int32) (t i : Nat) : Nat := if i = 0 then t else oNx T N here t + 1
def lsOk (T : List Tk) (N : Nt) (here : Int32) (t : Nat) : Bool := match lsX T N here t with
  | none => false
  | some x => decide ((tk T x).1 = 0)
/-- the token that is refused -/
def lsB (T : List Tk) (N : Nt) (here : Int32) (t : Nat) : Nat := match lsX T N here t with
  | none => if oOk T N here t = true then oXa T N here (oNx T N here t + 1) else oXa T N here t
  | some x => x
/-- the FAULTS of reading them -/
def lsG (T : List Tk) (N : Nt) (here : Int32) (t ln : Nat) (rep : Bool) (f : Fl) : Fl := if (tk T t).1 = 0 then f else if oOk T N here t = true ∧ (tk T (oNx T N here t)).1 = 44 then oFl T N here (oNx T N here t + 1) ln rep (oFl T N here t ln rep f) else oFl T N here t ln rep f
def lsFl (T : List Tk) (N : Nt) (here : Int32) (t ln : Nat) (rep : Bool) (f : Fl) : Fl := match lsX T N here t with
  | none => lsG T N here t ln rep f
  | some x => if (tk T x).1 = 0 then lsG T N here t ln rep f else addF (lsG T N here t ln rep f) ln (tk T x).2.1 (rfc T x)
def OPC (c : vmD) (i : Nat) (T : List Tk) (N : Nt) (here : Int32) (t : Nat) : Prop := gA c 34 i = nI (oKd T t) ∧ (oFr T t = none → gA c 35 i = 0 ∧ gA c 36 i = 0 ∧ gA c 37 i = 1) ∧ (∀ q, oFr T t = some q → gA c 35 i = (if oNg T t = true then -(xvl T N here q) else xvl T N here q) ∧ gA c 36 i = nI (tk T q).2.1 ∧ gA c 37 i = kb (decide ((xtr T N here q).1 = 0)))
def OP0 (c : vmD) (i : Nat) : Prop := gA c 34 i = 0 ∧ gA c 35 i = 0 ∧ gA c 36 i = 0 ∧ gA c 37 i = 1
theorem OPC.eq {c c' : vmD} {i : Nat} {T : List Tk} {N : Nt} {here : Int32} {t : Nat} (h : OPC c i T N here t) (e : ∀ o, (o = 34 ∨ o = 35 ∨ o = 36 ∨ o = 37) → gA c' o i = gA c o i) : OPC c' i T N here t := by
  unfold OPC at h ⊢
  rw [e 34 (by omega), e 35 (by omega), e 36 (by omega), e 37 (by omega)]
  exact h
theorem OP0.eq {c c' : vmD} {i : Nat} (h : OP0 c i) (e : ∀ o, (o = 34 ∨ o = 35 ∨ o = 36 ∨ o = 37) → gA c' o i = gA c o i) : OP0 c' i := by
  unfold OP0 at h ⊢
  rw [e 34 (by omega), e 35 (by omega), e 36 (by omega), e 37 (by omega)]
  exact h
theorem beginC (c : vmD) : ∃ c', (∀ Q : vmD → Prop, Q c' → Operands_begin c Q) ∧ gF c' 33 8 = 0 ∧ OP0 c' 0 ∧ OP0 c' 1 ∧ ModC [(33, 8)] [34, 35, 36, 37] [] c c' := by
  refine ⟨sA (sA (sA (sA (sA (sA (sA (sA (sF c 33 8 0) 34 0 0) 35 0 0) 36 0 0) 37 0 1) 34 1 0) 35 1 0) 36 1 0) 37 1 1, fun Q hQ => ?_, ?_, ?_, ?_, (((((((((ModC.refl [(33, 8)] [34, 35, 36, 37] [] c).sF (by decide) _).sA (by decide) _ _).sA (by decide) _ _).sA (by decide) _ _).sA (by decide) _ _).sA (by decide) _ _).sA (by decide) _ _).sA (by decide) _ _).sA (by decide) _ _⟩
  · unfold Operands_begin
    refine bnd_iff.mpr ⟨3, ?_⟩
    unfold Operands_begin_7
    rw [if_pos (by decide)]
    refine ⟨by decide, bnd_iff.mpr ⟨by decide, bnd_iff.mpr ⟨by decide, bnd_iff.mpr ⟨by decide, bnd_iff.mpr (bnd_iff.mpr ?_)⟩⟩⟩⟩
    unfold Operands_begin_7
    rw [if_pos (by decide)]
    refine ⟨by decide, bnd_iff.mpr ⟨by decide, bnd_iff.mpr ⟨by decide, bnd_iff.mpr ⟨by decide, bnd_iff.mpr (bnd_iff.mpr ?_)⟩⟩⟩⟩
    unfold Operands_begin_7
    rw [if_neg (by decide)]
    exact hQ
  · simp only [gA_sA, gA_sA_ne, gA_sF, gA_sG, gA_sL, gF_sA, gF_sF, gF_sF_ne, gF_sG, gF_sL, gG_sA, gG_sF, gG_sL, gG_sGe, gG_sG_ne, gL_sA, gL_sF, gL_sG, gL_sLe, gL_sL_ne, u1f_eq, u1f_ne, bnd_iff, not_false_eq_true, Nat.reduceEqDiff]
  · unfold OP0
    simp only [gA_sA, gA_sA_ne, gA_sF, gA_sG, gA_sL, gF_sA, gF_sF, gF_sF_ne, gF_sG, gF_sL, gG_sA, gG_sF, gG_sL, gG_sGe, gG_sG_ne, gL_sA, gL_sF, gL_sG, gL_sLe, gL_sL_ne, u1f_eq, u1f_ne, bnd_iff, not_false_eq_true, Nat.reduceEqDiff]
    exact ⟨trivial, trivial, trivial, trivial⟩
  · unfold OP0
    simp only [gA_sA, gA_sA_ne, gA_sF, gA_sG, gA_sL, gF_sA, gF_sF, gF_sF_ne, gF_sG, gF_sL, gG_sA, gG_sF, gG_sL, gG_sGe, gG_sG_ne, gL_sA, gL_sF, gL_sG, gL_sLe, gL_sL_ne, u1f_eq, u1f_ne, bnd_iff, not_false_eq_true, Nat.reduceEqDiff]
    exact ⟨trivial, trivial, trivial, trivial⟩
theorem endsLineC {B : Nat → Nat} {n : Nat} {c : vmD} {T : List Tk} {N : Nt} {ln : Nat} {f : Fl} (hLn : LnC B n c T N ln) (hF : FltC c f) {t : Nat} (ht : t < 2 ^ 31) : ∃ c', (∀ Q : Int32 → vmD → Prop, Q (kb (decide ((tk T t).1 = 0))) c' → Forger_endsLine (nI t) c Q) ∧ FltC c' (if (tk T t).1 = 0 then f else addF f ln (tk T t).2.1 (rfc T t)) ∧ ModC FF [] [] c c' := by
  have hkd := tk_kd hLn.2.1 t
  have hT := hLn.2.2.1
  have c0 : nI (tk T t).1 = 0 ↔ (tk T t).1 = 0 := nI_eq (b := 0) (by omega) (by omega)
  have e19 : ∀ (c' : vmD), TkC c' T → ∀ Q : Int32 → vmD → Prop, Q (kb (decide ((tk T t).1 = 0))) c' → Forger_endsLine_19 (nI t) c' Q := by
    intro c' h' Q hQ
    unfold Forger_endsLine_19
    rw [kindC h' ht]
    by_cases z : (tk T t).1 = 0
    · rw [decide_eq_true z] at hQ
      rw [if_pos (c0.mpr z)]
      exact hQ
    · rw [decide_eq_false z] at hQ
      rw [if_neg (fun w => z (c0.mp w))]
      exact hQ
  by_cases z : (tk T t).1 = 0
  · refine ⟨c, fun Q hQ => ?_, by rw [if_pos z]; exact hF, ModC.refl _ _ _ _⟩
    unfold Forger_endsLine
    rw [kindC hT ht, if_pos (c0.mpr z)]
    exact e19 c hT Q hQ
  · obtain ⟨c1, E1, F1, M1⟩ := refuseC hLn hF ht
    refine ⟨c1, fun Q hQ => ?_, by rw [if_neg z]; exact F1, M1⟩
    unfold Forger_endsLine
    rw [kindC hT ht, if_neg (fun w => z (c0.mp w))]
    exact E1 _ (e19 c1 (hT.mod M1 (by decide) (by decide) (by decide) (by decide)) Q hQ)
