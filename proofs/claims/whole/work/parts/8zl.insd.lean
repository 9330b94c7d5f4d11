/-! Statements: instructions, what they come to -/
def adO (ln : Nat) (F : Fo) (f : Fl) : Fl := match F with
  | none => f
  | some q => addF f ln q.2 q.1
theorem adO_set {ln : Nat} {F : Fo} {f : Fl} {a b : Nat} (hF : InF F a b) (h : OKf f a) : adO ln F f = setF ln F f := by
  cases F with
  | none => exact (setF_none ln f).symm
  | some q => exact setF_add (h.mono (hF q rfl).2.2.1)
/-- two operands: troubles first, then ranges -/
theorem chk2 {ln : Nat} {A0 R0 A1 R1 : Fo} {f : Fl} {a b d e : Nat} (h0 : f.2.2 = 0) (hA0 : InF A0 a b) (hR0 : InF R0 a b) (hA1 : InF A1 d e) (hR1 : InF R1 d e) (hbd : b ≤ d) (x0 : A0 = none ∨ R0 = none) (x1 : A1 = none ∨ R1 = none) : adO ln R1 (adO ln R0 (setF ln A1 (setF ln A0 f))) = setF ln (thF (thF A0 R0) (thF A1 R1)) f := by
  have two : ∀ (g : Fl), OKf g d → adO ln R1 (setF ln A1 g) = setF ln (thF A1 R1) g := by
    intro g hg
    rcases x1 with rfl | rfl
    · rw [setF_none, thF_none]
      exact adO_set hR1 hg
    · rw [thF_n]
      rfl
  rcases x0 with rfl | rfl
  · rw [setF_none, thF_none]
    cases R0 with
    | none =>
      rw [thF_none]
      exact two f (Or.inl h0)
    | some q =>
      obtain ⟨q1, q2, q3, q4⟩ := hR0 q rfl
      rw [thF_some]
      have e1 : adO ln (some q) (setF ln A1 f) = (ln, q.2, q.1) := by
        show addF (setF ln A1 f) ln q.2 q.1 = _
        unfold setF addF
        rw [if_pos h0]
        cases A1 with
        | none => exact if_pos (Or.inl h0)
        | some s =>
          obtain ⟨s1, s2, s3, s4⟩ := hA1 s rfl
          exact if_pos (Or.inr (Or.inl (show q.2 < s.2 by omega)))
      have e2 : setF ln (some q) f = (ln, q.2, q.1) := if_pos h0
      rw [e1, e2]
      cases R1 with
      | none => rfl
      | some s =>
        obtain ⟨s1, s2, s3, s4⟩ := hR1 s rfl
        show addF (ln, q.2, q.1) ln s.2 s.1 = _
        unfold addF
        rw [if_neg]
        show ¬ (q.1 = 0 ∨ s.2 < q.2 ∨ (s.2 = q.2 ∧ s.1 < q.1))
        omega
  · rw [thF_n, setF_th hA0]
    show adO ln R1 (setF ln (thF A0 A1) f) = _
    rw [← setF_th hA0, two _ (setF_OK (Or.inl h0) hA0 hbd), setF_th hA0]
/-- codes, sizes, values of an instruction -/
def kdN (T : List Tk) (N : Nt) (here : Int32) (p i : Nat) : Nat := if i < lsN T N here p then oKd T (lsT T N here p i) else 0
def inX (T : List Tk) (N : Nt) (here : Int32) (t w : Nat) : Option Nat := match fnT w (adjK w (kdN T N here (t + 1) 0)) (adjK w (kdN T N here (t + 1) 1)) with
  | none => none
  | some x => some x.2.2
def lnN (s : Int32) : Nat := (lenI s).toNatClampNeg
def ldN (g : Nat) : Nat := if g = 0 then 0 else 1
def btG (g : Nat) : Bool := decide (g = 5) || decide (g = 6)
def szN (x : Nat) : Nat := ldN (x / 256) + 1 + (if btG (x / 256) = true then 2 else lnN (shF x 0) + lnN (shF x 1))
theorem szT : ∀ w, w < 107 → (fT w).all (fun t => decide (t.2.2 < 1792) && decide (szI t.2.2 = nI (szN t.2.2)) && decide (szN t.2.2 ≤ 4) && decide (asrI (shF t.2.2 0) = nI t.1) && decide (asrI (shF t.2.2 1) = nI t.2.1) && decide (t.1 < 64) && decide (t.2.1 < 64) && decide (¬ tabS t.2.2 < 0)) = true := by decide +kernel
def vlI (T : List Tk) (N : Nt) (here : Int32) (p i : Nat) : Int32 := if i < lsN T N here p then (match oFr T (lsT T N here p i) with | none => 0 | some q => if oNg T (lsT T N here p i) = true then -(xvl T N here q) else xvl T N here q) else 0
def dsI (v : Int32) (h s : Nat) : Int32 := Int16.toInt32 (Int32.toInt16 ((v - nI h) - nI s))
def fiI (k v : Int32) : Bool := if k = 32 ∨ k = 33 ∨ k = 38 then !(decide (v < -128) || decide (127 < v)) else if k = 36 ∨ k = 42 then !(decide (v < -128) || decide (255 < v)) else if k = 37 ∨ k = 43 then !(decide (v < -32768) || decide (65535 < v)) else if k = 39 then !(decide (v < 0) || decide (7 < v)) else if k = 40 then !(decide (v < 0) || decide (56 < v)) && decide (v &&& 7 = 0) else if k = 41 then !(decide (v < 0) || decide (2 < v)) else true
/-- the value that is checked and put -/
def cvI (T : List Tk) (N : Nt) (here : Int32) (p h x i : Nat) : Int32 := if shF x i = 38 then dsI (vlI T N here p i) h (szN x) else vlI T N here p i
def opA (T : List Tk) (N : Nt) (here : Int32) (p i : Nat) : Fo := if i < lsN T N here p then (match oFr T (lsT T N here p i) with | none => none | some q => xT T N here q) else none
def opR (T : List Tk) (N : Nt) (here : Int32) (p h x i : Nat) : Fo := if i < lsN T N here p then (match oFr T (lsT T N here p i) with | none => none | some q => if (xtr T N here q).1 = 0 ∧ ¬ fiI (shF x i) (cvI T N here p h x i) = true then some (5, plaT T q) else none) else none
def inB (T : List Tk) (N : Nt) (here : Int32) (t h x : Nat) : Fo := thF (thF (opA T N here (t + 1) 0) (opR T N here (t + 1) h x 0)) (thF (opA T N here (t + 1) 1) (opR T N here (t + 1) h x 1))
def wiI (k v : Int32) : Int32 := if k = 39 then v <<< ((3 : Int32) &&& 31) else if k = 40 then v else if k = 41 then (if v = 0 then 0 else (v + 1) <<< ((3 : Int32) &&& 31)) else 0
def lgI (g : Nat) : Int32 := if g = 1 then 203 else if g = 2 then 237 else if g = 3 then 221 else if g = 5 then 221 else 253
def inO (T : List Tk) (N : Nt) (here : Int32) (t h x : Nat) : List Int32 := (if x / 256 = 0 then [] else [lgI (x / 256)]) ++ ((if btG (x / 256) = true then [203, (if shF x 0 = 39 then vlI T N here (t + 1) 1 else vlI T N here (t + 1) 0)] else []) ++ ([(nI x &&& 255) ||| wiI (shF x 0) (vlI T N here (t + 1) 0)] ++ (numO (if btG (x / 256) = true then 0 else lnN (shF x 0)) (cvI T N here (t + 1) h x 0) ++ numO (if btG (x / 256) = true then 0 else lnN (shF x 1)) (cvI T N here (t + 1) h x 1))))
def inF (T : List Tk) (N : Nt) (here : Int32) (t w h : Nat) : Fo := if lsOk T N here (t + 1) = true then (match inX T N here t w with | none => some (6, plaT T t) | some x => goF T t h (szN x)) else rfF T (lsB T N here (t + 1))
theorem lnN_e (s : Int32) : lnN s ≤ 2 ∧ lenI s = nI (lnN s) := by
  unfold lnN lenI
  repeat' split
  all_goals decide
theorem numO_l {k : Nat} (hk : k ≤ 2) (v : Int32) : (numO k v).length = k := by
  have : k = 0 ∨ k = 1 ∨ k = 2 := by omega
  rcases this with rfl | rfl | rfl <;> rfl
theorem inO_len (T : List Tk) (N : Nt) (here : Int32) (t h x : Nat) : (inO T N here t h x).length = szN x := by
  unfold inO szN ldN
  rw [List.length_append, List.length_append, List.length_append, List.length_append]
  have l0 := (lnN_e (shF x 0)).1
  have l1 := (lnN_e (shF x 1)).1
  by_cases z : x / 256 = 0
  · have zb : btG (x / 256) = false := by rw [z]; rfl
    rw [if_pos z, if_pos z, zb, if_neg Bool.false_ne_true, if_neg Bool.false_ne_true, if_neg Bool.false_ne_true, if_neg Bool.false_ne_true, numO_l l0, numO_l l1]
    show 0 + (0 + (1 + _)) = _
    omega
  · rw [if_neg z, if_neg z]
    cases zb : btG (x / 256) with
    | true =>
      rw [if_pos rfl, if_pos rfl, if_pos rfl, if_pos rfl, numO_l (by omega), numO_l (by omega)]
      rfl
    | false =>
      rw [if_neg Bool.false_ne_true, if_neg Bool.false_ne_true, if_neg Bool.false_ne_true, if_neg Bool.false_ne_true, numO_l l0, numO_l l1]
      show 1 + (0 + (1 + _)) = _
      omega
/-- what the class finds -/
theorem inX_ok {T : List Tk} {N : Nt} {here : Int32} {t w x : Nat} (hw : w < 107) (h : inX T N here t w = some x) : x < 1792 ∧ szI x = nI (szN x) ∧ szN x ≤ 4 ∧ asrI (shF x 0) = nI (adjK w (kdN T N here (t + 1) 0)) ∧ asrI (shF x 1) = nI (adjK w (kdN T N here (t + 1) 1)) ∧ ¬ tabS x < 0 ∧ adjK w (kdN T N here (t + 1) 0) < 64 ∧ adjK w (kdN T N here (t + 1) 1) < 64 ∧ agX x = true ∧ agG x = true := by
  unfold inX at h
  cases e : fnT w (adjK w (kdN T N here (t + 1) 0)) (adjK w (kdN T N here (t + 1) 1)) with
  | none => rw [e] at h; cases h
  | some v =>
    rw [e] at h
    have hv : v.2.2 = x := Option.some.inj h
    unfold fnT at e
    have hm := List.mem_of_find?_eq_some e
    have hp := List.find?_some e
    rw [Bool.and_eq_true, decide_eq_true_eq, decide_eq_true_eq] at hp
    have ht := List.all_eq_true.mp (szT w hw) v hm
    have ha := List.all_eq_true.mp (agT w hw) v hm
    simp only [Bool.and_eq_true, decide_eq_true_eq] at ht ha
    rw [hv, hp.1, hp.2] at ht
    rw [hv] at ha
    obtain ⟨⟨⟨⟨⟨⟨⟨t1, t2⟩, t3⟩, t4⟩, t5⟩, t6⟩, t7⟩, t8⟩ := ht
    exact ⟨t1, t2, t3, t4, t5, t8, t6, t7, ha.1, ha.2⟩
/-- FAULTS of reading operands -/
theorem oFl_ok {T : List Tk} {N : Nt} {here : Int32} {t ln : Nat} {rep : Bool} {f : Fl} (ok : oOk T N here t = true) : oFl T N here t ln rep f = match oFr T t with | none => f | some q => xfl T N here q ln rep f := by
  unfold oFl
  cases oFr T t with
  | none => rfl
  | some q => exact if_neg (fun z => z.2 ok)
theorem oOk_x {T : List Tk} {N : Nt} {here : Int32} {t q : Nat} (ok : oOk T N here t = true) (h : oFr T t = some q) : xok T N here q = true := by
  unfold oOk at ok
  rw [h] at ok
  exact (Bool.and_eq_true _ _ ▸ ok).1
theorem xfl_F {T : List Tk} {N : Nt} {here : Int32} {q ln : Nat} {f : Fl} : xfl T N here q ln false f = if xok T N here q = true then f else addF f ln (plaT T (xat T N here q)) (rfc T (xat T N here q)) := by
  unfold xfl
  rw [if_neg (fun z => Bool.noConfusion z.1)]
  rfl
theorem oFl_F {T : List Tk} {N : Nt} {here : Int32} {t ln : Nat} {f : Fl} : oFl T N here t ln false f = if oOk T N here t = true then f else addF f ln (plaT T (oXa T N here t)) (rfc T (oXa T N here t)) := by
  by_cases ok : oOk T N here t = true
  · rw [if_pos ok, oFl_ok ok]
    cases e : oFr T t with
    | none => rfl
    | some q =>
      dsimp only
      rw [xfl_F, if_pos (oOk_x ok e)]
  · rw [if_neg ok]
    unfold oFl oXa
    cases e : oFr T t with
    | none =>
      exfalso
      apply ok
      unfold oOk
      rw [e]
    | some q =>
      dsimp only
      by_cases xk : xok T N here q = true
      · rw [if_pos ⟨xk, ok⟩, xfl_F, if_pos xk]
        rfl
      · rw [if_neg (fun z => xk z.1), xfl_F, if_neg xk]
theorem lsFl_F {T : List Tk} {N : Nt} {here : Int32} {t ln : Nat} {f : Fl} (h0 : f.2.2 = 0) : lsFl T N here t ln false f = setF ln (if lsOk T N here t = true then none else rfF T (lsB T N here t)) f := by
  have ad : ∀ x : Nat, addF f ln (plaT T x) (rfc T x) = setF ln (rfF T x) f := fun x => setF_add (Or.inl h0)
  unfold lsFl lsOk lsB lsG lsX
  by_cases k0 : (tk T t).1 = 0
  · simp only [if_pos k0, decide_eq_true k0, if_true]
    exact (setF_none _ _).symm
  · simp only [if_neg k0]
    by_cases ok : oOk T N here t = true
    · by_cases kc : (tk T (oNx T N here t)).1 = 44
      · by_cases ok2 : oOk T N here (oNx T N here t + 1) = true
        · simp only [ok, kc, ok2, if_true, and_self, oFl_F]
          by_cases z : (tk T (oNx T N here (oNx T N here t + 1))).1 = 0
          · rw [if_pos z, if_pos (decide_eq_true z), setF_none]
          · rw [if_neg z, if_neg (by rw [decide_eq_false z]; exact Bool.false_ne_true)]
            exact ad _
        · simp only [ok, kc, ok2, if_true, and_self, oFl_F, if_false, Bool.false_eq_true]
          exact ad _
      · simp only [ok, kc, if_true, if_false, and_false, oFl_F]
        by_cases z : (tk T (oNx T N here t)).1 = 0
        · rw [if_pos z, if_pos (decide_eq_true z), setF_none]
        · rw [if_neg z, if_neg (by rw [decide_eq_false z]; exact Bool.false_ne_true)]
          exact ad _
    · simp only [ok, if_false, false_and, oFl_F, Bool.false_eq_true]
      exact ad _
