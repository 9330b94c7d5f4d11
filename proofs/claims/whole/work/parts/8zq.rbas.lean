/-! The reference's statements: words, exps, IFs -/
theorem wEq {K c i0 : Nat} (hg : goodK K) (hc : c < 2 ^ 64) (hp : 0 < c) (hi : ¬ idN (kNF 12 c) = 0) (h0 : ¬ i0 = 0) (ht : ∀ i, i < 107 → (kK (tabN i) = 0 ∨ (lg_cmp (wId i) (lN c) = 0 ↔ i = i0))) : lg_cmp (wOfK K) (lN c) = 0 ↔ idN K = i0 := by
  by_cases z : idN K = 0
  · constructor
    · intro q
      exact absurd q (noW hg z c hc hp hi)
    · intro q
      omega
  · rw [wId_k z]
    exact (ht _ (idN_lt K)).resolve_left (idN_p z)
theorem tW99 : ∀ i, i < 107 → (kK (tabN i) = 0 ∨ (lg_cmp (wId i) (lN 5198407) = 0 ↔ i = 99)) := by decide +kernel
theorem tW100 : ∀ i, i < 107 → (kK (tabN i) = 0 ∨ (lg_cmp (wId i) (lN 4542805) = 0 ↔ i = 100)) := by decide +kernel
theorem tW101 : ∀ i, i < 107 → (kK (tabN i) = 0 ∨ (lg_cmp (wId i) (lN 17474) = 0 ↔ i = 101)) := by decide +kernel
theorem tW102 : ∀ i, i < 107 → (kK (tabN i) = 0 ∨ (lg_cmp (wId i) (lN 17495) = 0 ↔ i = 102)) := by decide +kernel
theorem tW103 : ∀ i, i < 107 → (kK (tabN i) = 0 ∨ (lg_cmp (wId i) (lN 17491) = 0 ↔ i = 103)) := by decide +kernel
theorem tW104 : ∀ i, i < 107 → (kK (tabN i) = 0 ∨ (lg_cmp (wId i) (lN 18758) = 0 ↔ i = 104)) := by decide +kernel
theorem tW105 : ∀ i, i < 107 → (kK (tabN i) = 0 ∨ (lg_cmp (wId i) (lN 1162629957) = 0 ↔ i = 105)) := by decide +kernel
theorem tW106 : ∀ i, i < 107 → (kK (tabN i) = 0 ∨ (lg_cmp (wId i) (lN 297665841478) = 0 ↔ i = 106)) := by decide +kernel
theorem tWi : (¬ idN (kNF 12 5198407) = 0) ∧ (¬ idN (kNF 12 4542805) = 0) ∧ (¬ idN (kNF 12 17474) = 0) ∧ (¬ idN (kNF 12 17495) = 0) ∧ (¬ idN (kNF 12 17491) = 0) ∧ (¬ idN (kNF 12 18758) = 0) ∧ (¬ idN (kNF 12 1162629957) = 0) ∧ (¬ idN (kNF 12 297665841478) = 0) := by decide +kernel
theorem wORG {K : Nat} (hg : goodK K) : lg_cmp (wOfK K) 5198407 = 0 ↔ idN K = 99 := wEq (c := 5198407) hg (by decide) (by decide) tWi.1 (by decide) tW99
theorem wEQU {K : Nat} (hg : goodK K) : lg_cmp (wOfK K) 4542805 = 0 ↔ idN K = 100 := wEq (c := 4542805) hg (by decide) (by decide) tWi.2.1 (by decide) tW100
theorem wDB {K : Nat} (hg : goodK K) : lg_cmp (wOfK K) 17474 = 0 ↔ idN K = 101 := wEq (c := 17474) hg (by decide) (by decide) tWi.2.2.1 (by decide) tW101
theorem wDW {K : Nat} (hg : goodK K) : lg_cmp (wOfK K) 17495 = 0 ↔ idN K = 102 := wEq (c := 17495) hg (by decide) (by decide) tWi.2.2.2.1 (by decide) tW102
theorem wDS {K : Nat} (hg : goodK K) : lg_cmp (wOfK K) 17491 = 0 ↔ idN K = 103 := wEq (c := 17491) hg (by decide) (by decide) tWi.2.2.2.2.1 (by decide) tW103
theorem wIF {K : Nat} (hg : goodK K) : lg_cmp (wOfK K) 18758 = 0 ↔ idN K = 104 := wEq (c := 18758) hg (by decide) (by decide) tWi.2.2.2.2.2.1 (by decide) tW104
theorem wELSE {K : Nat} (hg : goodK K) : lg_cmp (wOfK K) 1162629957 = 0 ↔ idN K = 105 := wEq (c := 1162629957) hg (by decide) (by decide) tWi.2.2.2.2.2.2.1 (by decide) tW105
theorem wENDIF {K : Nat} (hg : goodK K) : lg_cmp (wOfK K) 297665841478 = 0 ↔ idN K = 106 := wEq (c := 297665841478) hg (by decide) (by decide) tWi.2.2.2.2.2.2.2 (by decide) tW106
theorem tSt : ∀ i, i < 107 → (kK (tabN i) = 0 ∨ ((MO_isStatement_v (wId i) = 0 ↔ ¬ (i = 99 ∨ i = 101 ∨ i = 102 ∨ i = 103 ∨ i = 104 ∨ i = 105 ∨ i = 106)) ∧ ((MO_plain_v (wId i) < 0 ∧ MO_isMany_v (wId i) = 0) ↔ ¬ (32 ≤ i ∧ i < 99)))) := by decide +kernel
theorem wSt {K : Nat} (hg : goodK K) : MO_isStatement_v (wOfK K) = 0 ↔ ¬ (idN K = 99 ∨ idN K = 101 ∨ idN K = 102 ∨ idN K = 103 ∨ idN K = 104 ∨ idN K = 105 ∨ idN K = 106) := by
  by_cases z : idN K = 0
  · rw [MO_isStatement_0 hg z, z]
    decide
  · rw [wId_k z]
    exact ((tSt _ (idN_lt K)).resolve_left (idN_p z)).1
theorem wIn {K : Nat} (hg : goodK K) : (MO_plain_v (wOfK K) < 0 ∧ MO_isMany_v (wOfK K) = 0) ↔ ¬ (32 ≤ idN K ∧ idN K < 99) := by
  by_cases z : idN K = 0
  · rw [MO_plain_0 hg z, MO_isMany_0 hg z, z]
    decide
  · rw [wId_k z]
    exact ((tSt _ (idN_lt K)).resolve_left (idN_p z)).2
theorem nm_g {B : Nat → Nat} {n : Nat} {T : List Tk} (hL : Lx B n T) {t : Nat} (ht : t < T.length) (hk : (tk T t).1 = 2) : goodK (tk T t).2.2.2 := ((hL.2.2 t ht).2.2.2.2.2.2.2.2 hk).1
theorem cur_w {r : vmD} {T : List Tk} {t : Nat} (hC : CurR r (tk T t)) (hk : (tk T t).1 = 2) : gG r 42 7 = wOfK (tk T t).2.2.2 := by
  have := hC.2.2.2.2.2.2
  rw [if_pos hk] at this
  exact this
theorem rk1 {k : Nat} (h : k < 128) : (rkd k = 1 ↔ k = 0) ∧ (rkd k = 2 ↔ k = 2) ∧ (rkd k = 4 ↔ k = 4) := by
  have : ∀ k, k < 128 → ((rkd k = 1 ↔ k = 0) ∧ (rkd k = 2 ↔ k = 2) ∧ (rkd k = 4 ↔ k = 4)) := by decide +kernel
  exact this k h
/-- a FAULT on the reference's side -/
def FlR (r : vmD) (q : Nat × Nat) : Prop := gF r 42 8 = nI q.1 ∧ gF r 42 9 = nI q.2
/-- an outcome: b tells whether it is good -/
def OutR (F : Fo) (b : Int32) (r' : vmD) (S : Prop) : Prop := (F = none ∧ b = 1 ∧ S) ∨ (∃ q, F = some q ∧ b = 0 ∧ FlR r' q)
theorem xprR {B : Nat → Nat} {n : Nat} {T : List Tk} {N : Nt} {here : Int32} {t : Nat} {r : vmD} (kf : Bool) (ht : t < T.length) (hLn : LnR B n r T N here) (hC : CurR r (tk T t)) (h8 : gF r 42 8 = 0) : ∃ r' b, (∀ Q : Int32 → vmD → Prop, Q b r' → MO_expression (kb kf) r Q) ∧ ModR RF RA r r' ∧ OutR (if kf = true then xF T N here t else xS T N here t) b r' (CurR r' (tk T (xat T N here t)) ∧ gF r' 42 8 = 0 ∧ xok T N here t = true ∧ (kf = true → gF r' 42 22 = xvl T N here t)) := by
  obtain ⟨r', b, M, H, E⟩ := exprR (kf := kf) ht hLn hC h8
  refine ⟨r', b, E, M, ?_⟩
  rcases H with ⟨h1, h2, h3, h4⟩ | ⟨h1, h2, h3, h4, h5, h6⟩ | ⟨h1, h2, h3, h4⟩
  · refine Or.inr ⟨((xtr T N here t).1, plaT T (xtr T N here t).2), ?_, h1, h4⟩
    rw [if_pos h2]
    unfold xF xT
    rw [if_neg h3, thF_some]
  · refine Or.inl ⟨?_, h1, h4, h5, h3, h6⟩
    have e : xS T N here t = none := if_pos h3
    by_cases z : kf = true
    · have z0 : (xtr T N here t).1 = 0 := Decidable.byContradiction fun q => h2 ⟨z, q⟩
      rw [if_pos z]
      unfold xF xT
      rw [if_pos z0, thF_none, e]
    · rw [if_neg z, e]
  · refine Or.inr ⟨(rfc T (xat T N here t), plaT T (xat T N here t)), ?_, h1, h4⟩
    have e : xS T N here t = rfF T (xat T N here t) := if_neg h3
    by_cases z : kf = true
    · have z0 : (xtr T N here t).1 = 0 := Decidable.byContradiction fun q => h2 ⟨z, q⟩
      rw [if_pos z]
      unfold xF xT
      rw [if_pos z0, thF_none, e]
      rfl
    · rw [if_neg z, e]
      rfl
/-- IFs -/
def CsR (r : vmD) (cs : Cs) : Prop := gF r 42 45 = nI cs.length ∧ cs.length ≤ 8 ∧ Stk (gA r 57) (cs.map (fun x => kb x.1)) ∧ Stk (gA r 58) (cs.map (fun x => kb x.2))
theorem CsR.mod {F A : List Nat} {r r' : vmD} {cs : Cs} (h : CsR r cs) (M : ModR F A r r') (h1 : ¬ 45 ∈ F) (h2 : ¬ 57 ∈ A) (h3 : ¬ 58 ∈ A) : CsR r' cs := by
  unfold CsR at h ⊢
  rw [M.2.1 45 h1, M.2.2.1 57 h2, M.2.2.1 58 h3]
  exact h
def dj : Cs → Nat → Bool
  | [], _ => true
  | x :: l, j => if j = l.length then x.1 else dj l j
def anD (cs : Cs) : Nat → Bool
  | 0 => true
  | k + 1 => anD cs k && dj cs k
theorem dj_stk {A : Nat → Int32} : ∀ (cs : Cs), Stk A (cs.map (fun x => kb x.1)) → ∀ j, j < cs.length → A j = kb (dj cs j) := by
  intro cs
  induction cs with
  | nil => intro _ j hj; exact absurd hj (Nat.not_lt_zero _)
  | cons x l ih =>
    intro h j hj
    rw [List.length_cons] at hj
    have h1 : A (l.map (fun x => kb x.1)).length = kb x.1 := h.1
    rw [List.length_map] at h1
    unfold dj
    by_cases z : j = l.length
    · rw [if_pos z, z]
      exact h1
    · rw [if_neg z]
      exact ih h.2 j (by omega)
theorem anD_cons (x : Bool × Bool) (l : Cs) : ∀ k, k ≤ l.length → anD (x :: l) k = anD l k := by
  intro k
  induction k with
  | zero => intro _; rfl
  | succ k ih =>
    intro h
    show (anD (x :: l) k && dj (x :: l) k) = (anD l k && dj l k)
    rw [ih (by omega)]
    have e : dj (x :: l) k = dj l k := if_neg (by omega)
    rw [e]
theorem anD_all : ∀ cs : Cs, anD cs cs.length = dnA cs := by
  intro cs
  induction cs with
  | nil => rfl
  | cons x l ih =>
    show (anD (x :: l) l.length && dj (x :: l) l.length) = (x.1 && dnA l)
    have e : dj (x :: l) l.length = x.1 := if_pos rfl
    rw [anD_cons x l _ (Nat.le_refl _), ih, e, Bool.and_comm]
theorem kb_ab (a b : Bool) : kb a &&& kb b = kb (a && b) := by
  cases a <;> cases b <;> decide
theorem kb_01 (b : Bool) : kb b = 0 ∨ kb b = 1 := by
  cases b
  · exact Or.inl rfl
  · exact Or.inr rfl
theorem dneR {r : vmD} {cs : Cs} (h : CsR r cs) (Q : Int32 → vmD → Prop) (hQ : Q (kb (dnA cs)) r) : MO_isDone r Q := by
  obtain ⟨h1, h2, h3, h4⟩ := h
  have key : ∀ m i, i + m = cs.length → ∃ f, MO_isDone_4 Q f (kb (anD cs i)) (nI i) r := by
    intro m
    induction m with
    | zero =>
      intro i hi
      refine ⟨1, ?_⟩
      unfold MO_isDone_4
      rw [h1, if_neg (nI_nlt (by omega) (by omega))]
      refine ⟨kb_01 _, ?_⟩
      have : i = cs.length := by omega
      rw [this, anD_all]
      exact hQ
    | succ m ih =>
      intro i hi
      obtain ⟨f, hf⟩ := ih (i + 1) (by omega)
      refine ⟨f + 1, ?_⟩
      unfold MO_isDone_4
      rw [h1, if_pos (nI_lt (by omega) (by omega))]
      refine ⟨nI_in (by omega) (by omega), bnd_iff.mpr (bnd_iff.mpr (bnd_iff.mpr ?_))⟩
      rw [nI_clamp (by omega), dj_stk cs h3 i (by omega), kb_ab, nI_p1]
      exact hf
  unfold MO_isDone
  exact key cs.length 0 (by omega)
theorem wrgR {r : vmD} (h8 : gF r 42 8 = 0) (k p : Nat) : ∃ r', (∀ Q : Int32 → vmD → Prop, Q 0 r' → MO_wrong (nI k) (nI p) r Q) ∧ FlR r' (k, p) ∧ ModR [8, 9] [] r r' ∧ gG r' = gG r := by
  obtain ⟨r', E, a, b, M, G⟩ := wrongR (ModR.refl [8, 9] [] r) h8 (by decide) (by decide) (nI k) (nI p)
  exact ⟨r', E, ⟨a, b⟩, M, G⟩
theorem rfsR {T : List Tk} {r : vmD} {t : Nat} (hC : CurR r (tk T t)) (h8 : gF r 42 8 = 0) (hk : (tk T t).1 < 128) : ∃ r', (∀ Q : Int32 → vmD → Prop, Q 0 r' → MO_refuse r Q) ∧ FlR r' (rfc T t, plaT T t) ∧ ModR [8, 9] [] r r' := refuseR hC h8 hk
