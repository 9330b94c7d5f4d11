/-! An exp: what it comes to -/
def lev (k : Nat) : Nat := if k = 38 then 3 else if k = 42 then 6 else if k = 43 then 5 else if k = 45 then 5 else if k = 47 then 6 else if k = 60 then 4 else if k = 62 then 4 else if k = 94 then 2 else if k = 109 then 7 else if k = 124 then 1 else if k = 126 then 7 else 0
def levI (x0 : Int32) : Int32 := if x0 = 38 then 3 else if x0 = 42 then 6 else if x0 = 43 then 5 else if x0 = 45 then 5 else if x0 = 47 then 6 else if x0 = 60 then 4 else if x0 = 62 then 4 else if x0 = 94 then 2 else if x0 = 109 then 7 else if x0 = 124 then 1 else if x0 = 126 then 7 else 0
theorem levI_e (x : Int32) (c : vmD) (Q : Int32 → vmD → Prop) : Expression_levelOf x c Q = Q (levI x) c := by
  have hq : ∀ (p : Prop) [Decidable p] (a b : Int32), Q (if p then a else b) c = if p then Q a c else Q b c := by
    intro p _ a b
    split <;> rfl
  simp only [Expression_levelOf, levI, hq]
theorem lev_I : ∀ k, k < 128 → levI (nI k) = nI (lev k) := by decide +kernel
theorem lev_7 (k : Nat) : lev k ≤ 7 := by
  unfold lev
  repeat' split
  all_goals omega
abbrev Op : Type := Nat × Nat
abbrev Vl : Type := Int32 × Bool
def opB (k : Nat) (a b : Int32) : Int32 := if k = 38 then a &&& b else if k = 42 then a * b else if k = 43 then a + b else if k = 45 then a - b else if k = 60 then a <<< ((b &&& 31) &&& 31) else if k = 62 then a >>> ((b &&& 31) &&& 31) else if k = 94 then a ^^^ b else if k = 124 then a ||| b else if b = 0 then 0 else a / b
def ap1 (o : Op) (v : List Vl) : List Vl := match v with
  | [] => []
  | x :: v => ((if o.1 = 126 then x.1 ^^^ (-1) else -x.1), x.2) :: v
def ap2 (o : Op) (v : List Vl) : List Vl := match v with
  | b :: a :: v => (opB o.1 a.1 b.1, a.2 && (b.2 && !(decide (o.1 = 47) && decide (b.1 = 0)))) :: v
  | v => v
def apt (o : Op) (v : List Vl) (tr : Nat × Nat) : Nat × Nat := match v with
  | b :: _ => if o.1 = 47 ∧ b.1 = 0 ∧ b.2 = true ∧ tr.1 = 0 then (5, o.2) else tr
  | [] => tr
def apV (o : Op) (v : List Vl) : List Vl := if lev o.1 = 7 then ap1 o v else ap2 o v
def apT2 (o : Op) (v : List Vl) (tr : Nat × Nat) : Nat × Nat := if lev o.1 = 7 then tr else apt o v tr
/-- ops, values, trouble -/
abbrev Xs : Type := List Op × List Vl × (Nat × Nat)
def stl (L : Nat) : List Op → List Vl → (Nat × Nat) → Xs
  | [], v, tr => ([], v, tr)
  | o :: os, v, tr => if lev o.1 < L then (o :: os, v, tr) else stl L os (apV o v) (apT2 o v tr)
def isO (k : Nat) : Bool := decide (k = 40) || (decide (k = 126) || decide (k = 109))
def opn : List Op → Nat
  | [] => 0
  | o :: os => (if isO o.1 = true then 1 else 0) + opn os
def parn : List Op → Nat
  | [] => 0
  | o :: os => (if o.1 = 40 then 1 else 0) + parn os
def rowL : List Op → Nat
  | [] => 0
  | o :: os => if o.1 = 40 then 0 else if lev o.1 = 7 then rowL os else lev o.1
def Inv : List Op → Prop
  | [] => True
  | o :: os => Inv os ∧ o.1 < 128 ∧ (o.1 = 40 ∨ lev o.1 = 7 ∨ (0 < lev o.1 ∧ lev o.1 < 7 ∧ rowL os < lev o.1 ∧ ∀ o' os', os = o' :: os' → lev o'.1 < lev o.1))
theorem lev_40 : lev 40 = 0 := by decide
theorem isO_7 (k : Nat) : isO k = true ↔ k = 40 ∨ lev k = 7 := by
  unfold isO lev
  simp only [Bool.or_eq_true, decide_eq_true_eq]
  constructor
  · rintro (rfl | rfl | rfl) <;> decide
  · rintro (rfl | h)
    · exact Or.inl rfl
    · by_cases e : k = 126
      · exact Or.inr (Or.inl e)
      · by_cases e2 : k = 109
        · exact Or.inr (Or.inr e2)
        · exfalso
          revert h
          repeat' split
          all_goals omega
theorem parn_le : ∀ os, parn os ≤ opn os := by
  intro os
  induction os with
  | nil => exact Nat.le_refl _
  | cons o os ih =>
    unfold parn opn
    by_cases e : o.1 = 40
    · rw [if_pos e, if_pos ((isO_7 _).mpr (Or.inl e))]
      omega
    · rw [if_neg e]
      omega
theorem opn_le : ∀ os, opn os ≤ os.length := by
  intro os
  induction os with
  | nil => exact Nat.le_refl _
  | cons o os ih =>
    unfold opn
    rw [List.length_cons]
    split <;> omega
theorem Inv_len : ∀ os, Inv os → os.length ≤ opn os + 6 * parn os + rowL os ∧ rowL os ≤ 6 := by
  intro os
  induction os with
  | nil => intro _; exact ⟨Nat.le_refl _, by show 0 ≤ 6; omega⟩
  | cons o os ih =>
    rintro ⟨h1, h2, h3⟩
    obtain ⟨i1, i2⟩ := ih h1
    unfold opn parn rowL
    rw [List.length_cons]
    rcases h3 with e | e | ⟨e1, e2, e3, -⟩
    · rw [if_pos ((isO_7 _).mpr (Or.inl e)), if_pos e, if_pos e]
      omega
    · have n40 : ¬ o.1 = 40 := fun z => by rw [z] at e; revert e; decide
      rw [if_pos ((isO_7 _).mpr (Or.inr e)), if_neg n40, if_neg n40, if_pos e]
      omega
    · have n40 : ¬ o.1 = 40 := fun z => by rw [z] at e1; revert e1; decide
      have n7 : ¬ lev o.1 = 7 := by omega
      have nO : ¬ isO o.1 = true := fun z => ((isO_7 _).mp z).elim n40 n7
      rw [if_neg nO, if_neg n40, if_neg n40, if_neg n7]
      omega
def XI (w : Bool) (os : List Op) (v : List Vl) : Prop := Inv os ∧ v.length + opn os = os.length + (if w = true then 0 else 1) ∧ opn os ≤ 40
theorem XI.len {w : Bool} {os : List Op} {v : List Vl} (h : XI w os v) : os.length ≤ 286 ∧ v.length ≤ 287 := by
  obtain ⟨h1, h2, h3⟩ := h
  have l := Inv_len os h1
  have p := parn_le os
  refine ⟨by omega, ?_⟩
  split at h2 <;> omega
theorem apV_len1 {o : Op} {v : List Vl} (h : lev o.1 = 7) : (apV o v).length = v.length := by
  unfold apV
  rw [if_pos h]
  cases v <;> rfl
theorem apV_len2 {o : Op} {v : List Vl} (h : ¬ lev o.1 = 7) (h2 : 2 ≤ v.length) : (apV o v).length + 1 = v.length := by
  unfold apV
  rw [if_neg h]
  match v, h2 with
  | [], h2 => exact absurd h2 (by show ¬ 2 ≤ 0; omega)
  | [a], h2 => exact absurd h2 (by show ¬ 2 ≤ 1; omega)
  | b :: a :: v, _ => rfl
/-- what settling keeps -/
theorem XI.pop {o : Op} {os : List Op} {v : List Vl} (h : XI false (o :: os) v) (h40 : ¬ o.1 = 40) : XI false os (apV o v) ∧ parn (o :: os) = parn os ∧ opn (o :: os) = (if lev o.1 = 7 then 1 else 0) + opn os ∧ (if lev o.1 = 7 then 1 else 2) ≤ v.length := by
  obtain ⟨⟨h1, h2, h3⟩, h4, h5⟩ := h
  have hp : parn (o :: os) = parn os := by
    show (if o.1 = 40 then 1 else 0) + parn os = _
    rw [if_neg h40]
    omega
  have ho : opn (o :: os) = (if lev o.1 = 7 then 1 else 0) + opn os := by
    show (if isO o.1 = true then 1 else 0) + opn os = _
    by_cases e : lev o.1 = 7
    · rw [if_pos ((isO_7 _).mpr (Or.inr e)), if_pos e]
    · rw [if_neg (fun z => ((isO_7 _).mp z).elim h40 e), if_neg e]
  have hl := opn_le os
  have h4 : v.length + opn (o :: os) = os.length + 1 + 1 := h4
  rw [ho] at h4
  by_cases e : lev o.1 = 7
  · rw [if_pos e] at h4
    refine ⟨⟨h1, ?_, by omega⟩, hp, ho, by rw [if_pos e]; omega⟩
    rw [apV_len1 e]
    show _ = os.length + 1
    omega
  · rw [if_neg e] at h4
    have h2v : 2 ≤ v.length := by omega
    refine ⟨⟨h1, ?_, by omega⟩, hp, ho, by rw [if_neg e]; exact h2v⟩
    have := apV_len2 e h2v
    show _ = os.length + 1
    omega
theorem stl_XI (L : Nat) (hL : 1 ≤ L) : ∀ (os : List Op) (v : List Vl) (tr : Nat × Nat), XI false os v → XI false (stl L os v tr).1 (stl L os v tr).2.1 ∧ parn (stl L os v tr).1 = parn os ∧ (∀ o os', (stl L os v tr).1 = o :: os' → lev o.1 < L) := by
  intro os
  induction os with
  | nil => intro v tr h; exact ⟨h, rfl, fun o os' e => by cases e⟩
  | cons o os ih =>
    intro v tr h
    unfold stl
    by_cases e : lev o.1 < L
    · rw [if_pos e]
      refine ⟨h, rfl, fun o' os' e2 => ?_⟩
      cases e2
      exact e
    · rw [if_neg e]
      have h40 : ¬ o.1 = 40 := fun z => by rw [z, lev_40] at e; omega
      obtain ⟨g1, g2, -⟩ := h.pop h40
      obtain ⟨i1, i2, i3⟩ := ih (apV o v) (apT2 o v tr) g1
      exact ⟨i1, by rw [i2, g2], i3⟩
theorem rowL_lt {os : List Op} {L : Nat} (hL : L ≤ 6) (h0 : 0 < L) (h : ∀ o os', os = o :: os' → lev o.1 < L) : rowL os < L := by
  cases os with
  | nil => exact h0
  | cons o os =>
    have := h o os rfl
    unfold rowL
    split
    · exact h0
    · rw [if_neg (by omega)]
      exact this
/-- the operand at a token -/
def xval (T : List Tk) (N : Nt) (here : Int32) (t : Nat) : Option Vl := if (tk T t).1 = 3 then some (nI (tk T t).2.2.2, true) else if (tk T t).1 = 2 then (if 0 < idN (tk T t).2.2.2 then none else if h : fnd (tk T t).2.2.2 N < N.length then some ((N[fnd (tk T t).2.2.2 N]).2, true) else some (0, false)) else if (tk T t).1 = 64 then some (here, true) else none
def tro (x : Vl) (tr : Nat × Nat) (t : Nat) : Nat × Nat := if x.2 = false ∧ tr.1 = 0 then (4, t) else tr
abbrev Xr : Type := Bool × Nat × Xs
def xrun (T : List Tk) (N : Nt) (here : Int32) : Nat → Bool → List Op → List Vl → (Nat × Nat) → Nat → Xr
  | 0, w, os, v, tr, t => (w, t, os, v, tr)
  | f + 1, w, os, v, tr, t =>
    if w = true then
      if (tk T t).1 = 40 ∨ (tk T t).1 = 126 ∨ (tk T t).1 = 45 then
        if 40 ≤ opn os then (w, t, os, v, tr) else xrun T N here f true (((if (tk T t).1 = 45 then 109 else (tk T t).1), t) :: os) v tr (t + 1)
      else match xval T N here t with
        | none => (w, t, os, v, tr)
        | some x => xrun T N here f false (stl 6 os (x :: v) (tro x tr t)).1 (stl 6 os (x :: v) (tro x tr t)).2.1 (stl 6 os (x :: v) (tro x tr t)).2.2 (t + 1)
    else if (tk T t).1 = 41 ∧ 0 < parn os then
      xrun T N here f false (stl 6 (stl 1 os v tr).1.tail (stl 1 os v tr).2.1 (stl 1 os v tr).2.2).1 (stl 6 (stl 1 os v tr).1.tail (stl 1 os v tr).2.1 (stl 1 os v tr).2.2).2.1 (stl 6 (stl 1 os v tr).1.tail (stl 1 os v tr).2.1 (stl 1 os v tr).2.2).2.2 (t + 1)
    else if 0 < lev (tk T t).1 ∧ lev (tk T t).1 < 7 then
      xrun T N here f true (((tk T t).1, t) :: (stl (lev (tk T t).1) os v tr).1) (stl (lev (tk T t).1) os v tr).2.1 (stl (lev (tk T t).1) os v tr).2.2 (t + 1)
    else (w, t, os, v, tr)
/-- the class's stacks -/
def Stk (A : Nat → Int32) : List Int32 → Prop
  | [] => True
  | x :: l => A l.length = x ∧ Stk A l
theorem Stk.upd {A : Nat → Int32} : ∀ {l : List Int32} {k : Nat} (v : Int32), Stk A l → l.length ≤ k → Stk (u1f A k v) l := by
  intro l
  induction l with
  | nil => intro k v _ _; exact True.intro
  | cons x l ih =>
    intro k v h hk
    rw [List.length_cons] at hk
    refine ⟨?_, ih v h.2 (by omega)⟩
    rw [u1f_ne _ _ (by omega)]
    exact h.1
theorem Stk.push {A : Nat → Int32} {l : List Int32} (v : Int32) (h : Stk A l) : Stk (u1f A l.length v) (v :: l) := ⟨u1f_eq _ _ _, h.upd v (Nat.le_refl _)⟩
def kb (b : Bool) : Int32 := if b = true then 1 else 0
def XC (c : vmD) (here : Int32) (os : List Op) (v : List Vl) (tr : Nat × Nat) : Prop := gF c 28 6 = nI os.length ∧ gF c 28 7 = nI v.length ∧ gF c 28 8 = nI (opn os) ∧ gF c 28 9 = nI (parn os) ∧ gF c 28 10 = here ∧ gF c 28 11 = nI tr.1 ∧ (¬ tr.1 = 0 → gF c 28 12 = nI tr.2) ∧ tr.1 < 6 ∧ Stk (gA c 29) (os.map (fun o => nI o.1)) ∧ Stk (gA c 30) (os.map (fun o => nI o.2)) ∧ Stk (gA c 31) (v.map (fun x => x.1)) ∧ Stk (gA c 32) (v.map (fun x => kb x.2))
def ModC (F : List (Nat × Nat)) (A L : List Nat) (c c' : vmD) : Prop := (∀ o f, ¬ (o, f) ∈ F → gF c' o f = gF c o f) ∧ (∀ o, ¬ o ∈ A → gA c' o = gA c o) ∧ (∀ o, ¬ o ∈ L → gL c' o = gL c o) ∧ gG c' = gG c
theorem ModC.refl (F : List (Nat × Nat)) (A L : List Nat) (c : vmD) : ModC F A L c c := ⟨fun _ _ _ => rfl, fun _ _ => rfl, fun _ _ => rfl, rfl⟩
theorem ModC.trans {F : List (Nat × Nat)} {A L : List Nat} {a b c : vmD} (h : ModC F A L a b) (g : ModC F A L b c) : ModC F A L a c := ⟨fun o f q => (g.1 o f q).trans (h.1 o f q), fun o q => (g.2.1 o q).trans (h.2.1 o q), fun o q => (g.2.2.1 o q).trans (h.2.2.1 o q), g.2.2.2.trans h.2.2.2⟩
theorem ModC.mono {F F' : List (Nat × Nat)} {A A' L L' : List Nat} {a b : vmD} (h : ModC F A L a b) (hF : ∀ x, x ∈ F → x ∈ F') (hA : ∀ x, x ∈ A → x ∈ A') (hL : ∀ x, x ∈ L → x ∈ L') : ModC F' A' L' a b := ⟨fun o f q => h.1 o f (fun z => q (hF _ z)), fun o q => h.2.1 o (fun z => q (hA _ z)), fun o q => h.2.2.1 o (fun z => q (hL _ z)), h.2.2.2⟩
theorem ModC.sF {F : List (Nat × Nat)} {A L : List Nat} {a b : vmD} (h : ModC F A L a b) {o f : Nat} (hf : (o, f) ∈ F) (v : Int32) : ModC F A L a (sF b o f v) := by
  refine h.trans ⟨fun o' f' q => ?_, fun _ _ => rfl, fun _ _ => rfl, rfl⟩
  by_cases e : o' = o
  · subst e
    rw [gF_sF, u1f_ne _ _ (fun z => q (by rw [z]; exact hf))]
  · rw [gF_sF_ne _ _ _ e]
theorem ModC.sA {F : List (Nat × Nat)} {A L : List Nat} {a b : vmD} (h : ModC F A L a b) {o : Nat} (ho : o ∈ A) (j : Nat) (v : Int32) : ModC F A L a (sA b o j v) := by
  refine h.trans ⟨fun _ _ _ => rfl, fun x q => gA_sA_ne _ _ _ (fun z => q (by rw [z]; exact ho)), fun _ _ => rfl, rfl⟩
theorem ModC.sL {F : List (Nat × Nat)} {A L : List Nat} {a b : vmD} (h : ModC F A L a b) {o : Nat} (ho : o ∈ L) (j : Nat) (v : Int64) : ModC F A L a (sL b o j v) := by
  refine h.trans ⟨fun _ _ _ => rfl, fun _ _ => rfl, fun x q => gL_sL_ne _ _ _ (fun z => q (by rw [z]; exact ho)), rfl⟩
abbrev XF : List (Nat × Nat) := [(28, 6), (28, 7), (28, 8), (28, 9), (28, 10), (28, 11), (28, 12)]
abbrev XA : List Nat := [29, 30, 31, 32]
theorem kb_and (b : Bool) : kb b &&& 1 = kb b := by cases b <;> decide
theorem kb_0 (b : Bool) : kb b = 0 ↔ ¬ b = true := by cases b <;> decide
theorem map_len {α β : Type} (f : α → β) (l : List α) : (l.map f).length = l.length := List.length_map ..
/-- a waiting sign before a value is done -/
theorem turnC {c : vmD} {here : Int32} {o : Op} {os : List Op} {v : List Vl} {tr : Nat × Nat} (hX : XC c here (o :: os) v tr) (hI : XI false (o :: os) v) (h7 : lev o.1 = 7) : ∃ c', (∀ Q : vmD → Prop, Q c' → Expression_turn (nI o.1) (sF c 28 6 (nI os.length)) Q) ∧ XC c' here os (apV o v) (apT2 o v tr) ∧ ModC XF XA [] c c' := by
  have h40 : ¬ o.1 = 40 := fun z => by rw [z] at h7; revert h7; decide
  obtain ⟨g1, g2, g3, g4⟩ := hI.pop h40
  have hl := hI.len
  rw [if_pos h7] at g3 g4
  obtain ⟨x1, x2, x3, x4, x5, x6, x7, x8, x9, x10, x11, x12⟩ := hX
  cases v with
  | nil => exact absurd g4 (by show ¬ 1 ≤ 0; omega)
  | cons x v =>
    have ho := hI.1.2.1
    have hlen : (x :: v).length ≤ 287 := hl.2
    rw [List.length_cons] at hlen
    have e1 : nI (opn (o :: os)) - 1 = nI (opn os) := by
      rw [g3, show (1 : Int32) = nI 1 from rfl, pk_sub (by omega)]
      exact congrArg nI (by omega)
    have e2 : nI (x :: v).length - 1 = nI v.length := by
      rw [List.length_cons]
      exact nI_pred _
    have eV : apV o (x :: v) = ((if o.1 = 126 then x.1 ^^^ (-1) else -x.1), x.2) :: v := by
      unfold apV
      rw [if_pos h7]
      rfl
    have eT : apT2 o (x :: v) tr = tr := by
      unfold apT2
      rw [if_pos h7]
    obtain ⟨nv, hnv⟩ : ∃ nv : Int32, nv = if o.1 = 126 then x.1 ^^^ (-1) else -x.1 := ⟨_, rfl⟩
    refine ⟨sA (sF (sF c 28 6 (nI os.length)) 28 8 (nI (opn os))) 31 v.length nv, fun Q hQ => ?_, ?_, (((ModC.refl XF XA [] c).sF (by decide) _).sF (by decide) _).sA (by decide) _ _⟩
    · unfold Expression_turn
      refine bnd_iff.mpr ?_
      simp only [gA_sA, gA_sA_ne, gA_sF, gA_sG, gA_sL, gF_sA, gF_sF, gF_sF_ne, gF_sG, gF_sL, gG_sA, gG_sF, gG_sL, gG_sGe, gG_sG_ne, gL_sA, gL_sF, gL_sG, gL_sLe, gL_sL_ne, u1f_eq, u1f_ne, bnd_iff, not_false_eq_true, Nat.reduceEqDiff]
      rw [x3, e1, x2, if_pos (show (0 : Int32) < nI (x :: v).length from nI_lt (a := 0) (by rw [List.length_cons]; omega) (by rw [List.length_cons]; omega)), if_neg (show ¬ (320 : Int32) < nI (x :: v).length from nI_nlt (a := 320) (by rw [List.length_cons]; omega) (by omega)), e2]
      refine ⟨nI_in (by omega) (by omega), ?_⟩
      rw [nI_clamp (by omega)]
      have hx : gA c 31 v.length = x.1 := by
        have := x11.1
        rw [map_len] at this
        exact this
      rw [hx]
      unfold Expression_turn_63
      have hc : nI o.1 = 126 ↔ o.1 = 126 := nI_eq (b := 126) (by omega) (by omega)
      by_cases e : o.1 = 126
      · rw [if_pos e] at hnv
        rw [if_pos (hc.mpr e), ← hnv]
        refine ⟨nI_in (by omega) (by omega), bnd_iff.mpr ?_⟩
        rw [nI_clamp (by omega)]
        exact hQ
      · rw [if_neg e] at hnv
        rw [if_neg (fun z => e (hc.mp z)), ← hnv]
        refine ⟨nI_in (by omega) (by omega), bnd_iff.mpr ?_⟩
        rw [nI_clamp (by omega)]
        exact hQ
    · rw [eV, eT, ← hnv]
      unfold XC
      simp only [gA_sA, gA_sA_ne, gA_sF, gA_sG, gA_sL, gF_sA, gF_sF, gF_sF_ne, gF_sG, gF_sL, gG_sA, gG_sF, gG_sL, gG_sGe, gG_sG_ne, gL_sA, gL_sF, gL_sG, gL_sLe, gL_sL_ne, u1f_eq, u1f_ne, bnd_iff, not_false_eq_true, Nat.reduceEqDiff]
      refine ⟨trivial, by rw [x2]; rfl, trivial, by rw [x4, g2], x5, x6, x7, x8, x9.2, x10.2, ?_, x12⟩
      have := x11.2
      have hp := this.push nv
      rw [map_len] at hp
      exact hp
