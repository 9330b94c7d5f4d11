/-! Statements: the class's DB and DW -/
def itT (o : Bool) (T : List Tk) (p : Nat) : Bool := o && decide ((tk T p).1 = 4)
def loI (o : Bool) : Int32 := if o = true then -128 else -32768
def hiI (o : Bool) : Int32 := if o = true then 255 else 65535
def itX (o : Bool) (T : List Tk) (N : Nt) (here : Int32) (p : Nat) : Nat := if itT o T p = true then p + 1 else xat T N here p
def itS (o : Bool) (T : List Tk) (N : Nt) (here : Int32) (p : Nat) : Fo := if itT o T p = true then none else xS T N here p
def itF (o : Bool) (T : List Tk) (N : Nt) (here : Int32) (p : Nat) : Fo := if itT o T p = true then none else nmF T N here p (loI o) (hiI o)
def itO (B : Nat → Nat) (o : Bool) (T : List Tk) (N : Nt) (here : Int32) (p : Nat) : List Int32 := if itT o T p = true then txL B (plaT T p + 1) (tk T p).2.2.2 else numO (if o = true then 1 else 2) (xvl T N here p)
def dtS (o : Bool) (T : List Tk) (N : Nt) (here : Int32) : Nat → Nat → Fo
  | 0, _ => none
  | f + 1, p => thF (itS o T N here p) (if (tk T (itX o T N here p)).1 = 44 then dtS o T N here f (itX o T N here p + 1) else endF T (itX o T N here p))
def dtF (o : Bool) (T : List Tk) (N : Nt) (here : Int32) : Nat → Nat → Fo
  | 0, _ => none
  | f + 1, p => thF (itF o T N here p) (if (tk T (itX o T N here p)).1 = 44 then dtF o T N here f (itX o T N here p + 1) else none)
def dtO (B : Nat → Nat) (o : Bool) (T : List Tk) (N : Nt) (here : Int32) : Nat → Nat → List Int32
  | 0, _ => []
  | f + 1, p => itO B o T N here p ++ (if (tk T (itX o T N here p)).1 = 44 then dtO B o T N here f (itX o T N here p + 1) else [])
def daF (B : Nat → Nat) (o : Bool) (T : List Tk) (N : Nt) (here : Int32) (t h : Nat) : Fo := thF (dtS o T N here T.length (t + 1)) (goF T t h (dtO B o T N here T.length (t + 1)).length)
theorem numO_len (o : Bool) (v : Int32) : (numO (if o = true then 1 else 2) v).length = (if o = true then 1 else 2) := by
  cases o <;> rfl
theorem itX_lt {B : Nat → Nat} {n : Nat} {T : List Tk} (hL : Lx B n T) {o : Bool} {N : Nt} {here : Int32} {p : Nat} (hp : p < T.length) : itX o T N here p < T.length := by
  unfold itX
  by_cases z : itT o T p = true
  · rw [if_pos z]
    unfold itT at z
    rw [Bool.and_eq_true, decide_eq_true_eq] at z
    exact more hL hp (by omega)
  · rw [if_neg z]
    exact exprLt hL hp
theorem itX_ge {o : Bool} {T : List Tk} {N : Nt} {here : Int32} {p : Nat} : p ≤ itX o T N here p := by
  unfold itX
  split
  · exact Nat.le_succ p
  · exact xat_ge
theorem itO_len {B : Nat → Nat} {n : Nat} {T : List Tk} (hO : SrcOk B n) (hL : Lx B n T) {o : Bool} {N : Nt} {here : Int32} {p : Nat} (hp : p < T.length) : (itO B o T N here p).length ≤ 6000 := by
  have hn := hO.1
  unfold itO
  by_cases z : itT o T p = true
  · rw [if_pos z, txL_len]
    unfold itT at z
    rw [Bool.and_eq_true, decide_eq_true_eq] at z
    have := (text_tk hL hp z.2).2
    omega
  · rw [if_neg z, numO_len]
    split <;> omega
theorem dtO_len {B : Nat → Nat} {n : Nat} {T : List Tk} (hO : SrcOk B n) (hL : Lx B n T) {o : Bool} {N : Nt} {here : Int32} : ∀ (f p : Nat), p < T.length → (dtO B o T N here f p).length ≤ 6000 * f := by
  intro f
  induction f with
  | zero => intro p hp; exact Nat.le_refl _
  | succ f ih =>
    intro p hp
    unfold dtO
    rw [List.length_append]
    have h1 := itO_len hO hL (o := o) (N := N) (here := here) hp
    by_cases z : (tk T (itX o T N here p)).1 = 44
    · rw [if_pos z]
      have := ih (itX o T N here p + 1) (more hL (itX_lt hL hp) (by omega))
      omega
    · rw [if_neg z]
      show (itO B o T N here p).length + 0 ≤ _
      omega
theorem SrcC.mod {B : Nat → Nat} {n : Nat} {F : List (Nat × Nat)} {A L : List Nat} {c c' : vmD} (h : SrcC B n c) (M : ModC F A L c c') (h1 : ¬ (9, 1) ∈ F) (h2 : ¬ 10 ∈ A) : SrcC B n c' := by
  unfold SrcC at h ⊢
  rw [M.1 9 1 h1, M.2.1 10 h2]
  exact h
/-- an item -/
theorem itmC {B : Nat → Nat} {n : Nat} {T : List Tk} {N : Nt} {ln wh h : Nat} {cs : Cs} {o : Bool} {t : Nat} {d : vmD} {g : Fl} {P1 : Pt} (hw4 : wh < 4) {q a i : Nat} (hq : q + 1 < T.length) (hi : i < 6000) (hSr : SrcC B n d) (hS : StC B n d T N ln wh h cs P1) (hF : FltC d g) (hok : OKf g (plaT T (q + 1))) (hp : P1.2.1 < 2 ^ 28) (ha : wh = 3 → a + (itO B o T N (nI h) (q + 1)).length ≤ 65536) (hw : wh ≠ 1 → itS o T N (nI h) (q + 1) = none) (hw2 : itS o T N (nI h) (q + 1) = none ∨ ¬ (if wh = 2 then itF o T N (nI h) (q + 1) else itS o T N (nI h) (q + 1)) = none) : ∃ d', (∀ (Q : vmD → Prop) (m : Nat), (if itS o T N (nI h) (q + 1) = none then Forger_data_151 (Forger_data_14 Q m) (nI t) (kb o) (nI (a + (itO B o T N (nI h) (q + 1)).length)) (nI (itX o T N (nI h) (q + 1))) (nI i) d' Q else Q d') → Forger_data_14 Q (m + 1) (nI t) (kb o) (nI a) (nI q) 1 (nI i) d) ∧ FltC d' (setF ln (if wh = 2 then itF o T N (nI h) (q + 1) else itS o T N (nI h) (q + 1)) g) ∧ (itS o T N (nI h) (q + 1) = none → StC B n d' T N ln wh h cs (ptW wh a (itO B o T N (nI h) (q + 1)) P1)) ∧ ModS wh d d' ∧ InF (if wh = 2 then itF o T N (nI h) (q + 1) else itS o T N (nI h) (q + 1)) (plaT T (q + 1)) (plaT T (itX o T N (nI h) (q + 1)) + 1) ∧ (itS o T N (nI h) (q + 1) = none → InF (if wh = 2 then itF o T N (nI h) (q + 1) else itS o T N (nI h) (q + 1)) (plaT T (q + 1)) (plaT T (itX o T N (nI h) (q + 1)))) := by
  obtain ⟨hLn, h9, h11, hC, hP⟩ := id hS
  have hL := hLn.2.1
  have hTl := hL.2.1
  have step : ∀ (Q : vmD → Prop) (m : Nat), (if kb o = 0 then (Forger_data_79 (Forger_data_14 Q m) (nI t) (kb o) (nI a) (nI i) (nI (q + 1)) d Q) else (if nI (tk T (q + 1)).1 = 4 then (Forger_putText (nI a) (nI (q + 1)) d fun d_29 => Tokens_value (nI (q + 1)) d_29 fun r_31 d_30 => bnd (nI a + (Int64.toInt32 r_31)) fun x3_32 => Forger_data_151 (Forger_data_14 Q m) (nI t) (kb o) x3_32 (nI (q + 1) + 1) (nI i) d_30 Q) else (Forger_data_79 (Forger_data_14 Q m) (nI t) (kb o) (nI a) (nI i) (nI (q + 1)) d Q))) → Forger_data_14 Q (m + 1) (nI t) (kb o) (nI a) (nI q) 1 (nI i) d := by
    intro Q m hQ
    unfold Forger_data_14
    rw [if_neg (by decide), if_pos (show nI i < 6000 from nI_lt (b := 6000) hi (by omega))]
    refine bnd_iff.mpr ?_
    rw [nI_p1]
    by_cases z : kb o = 0
    · rw [if_pos z] at hQ ⊢
      exact hQ
    · rw [if_neg z] at hQ ⊢
      rw [kindC hLn.2.2.1 (by omega)]
      split
      · rename_i k
        rw [if_pos k] at hQ
        exact bnd_iff.mpr hQ
      · rename_i k
        rw [if_neg k] at hQ
        exact hQ
  have k4 : nI (tk T (q + 1)).1 = 4 ↔ (tk T (q + 1)).1 = 4 := nI_eq (b := 4) (by have := tk_kd hL (q + 1); omega) (by omega)
  by_cases z : itT o T (q + 1) = true
  · have eX : itX o T N (nI h) (q + 1) = q + 1 + 1 := if_pos z
    have eS : itS o T N (nI h) (q + 1) = none := if_pos z
    have eF : itF o T N (nI h) (q + 1) = none := if_pos z
    have eO : itO B o T N (nI h) (q + 1) = txL B (plaT T (q + 1) + 1) (tk T (q + 1)).2.2.2 := if_pos z
    have eG : (if wh = 2 then itF o T N (nI h) (q + 1) else itS o T N (nI h) (q + 1)) = none := by
      rw [eF, eS]
      split <;> rfl
    have z2 := z
    unfold itT at z2
    rw [Bool.and_eq_true, decide_eq_true_eq] at z2
    rw [eG, eS, eX, setF_none, eO, txL_len]
    rw [eO, txL_len] at ha
    obtain ⟨d1, E1, P2, M1, W1⟩ := txtPC hLn.1 hSr hLn.2.2.1 hL hP h9 hw4 hq z2.2 (a := a) ha hp
    have hS1 := hS.pt M1 P2
    refine ⟨d1, fun Q m hQ => step Q m ?_, hF.mod M1 (by decide) (by decide) (by decide), fun _ => hS1, modPF M1 W1, InF.none _ _, fun _ => InF.none _ _⟩
    rw [if_pos rfl] at hQ
    rw [if_neg (by rw [z2.1]; decide), if_pos (k4.mpr z2.2)]
    refine E1 _ ?_
    rw [valueC hS1.1.2.2.1 (by omega)]
    refine bnd_iff.mpr ?_
    rw [lN_i, nI_add, nI_p1]
    exact hQ
  · have eX : itX o T N (nI h) (q + 1) = xat T N (nI h) (q + 1) := if_neg z
    have eS : itS o T N (nI h) (q + 1) = xS T N (nI h) (q + 1) := if_neg z
    have eF : itF o T N (nI h) (q + 1) = nmF T N (nI h) (q + 1) (loI o) (hiI o) := if_neg z
    have eO : itO B o T N (nI h) (q + 1) = numO (if o = true then 1 else 2) (xvl T N (nI h) (q + 1)) := if_neg z
    have step2 : ∀ (Q : vmD → Prop) (m : Nat), Forger_data_79 (Forger_data_14 Q m) (nI t) (kb o) (nI a) (nI i) (nI (q + 1)) d Q → Forger_data_14 Q (m + 1) (nI t) (kb o) (nI a) (nI q) 1 (nI i) d := by
      intro Q m hQ
      refine step Q m ?_
      by_cases ko : kb o = 0
      · rw [if_pos ko]
        exact hQ
      · rw [if_neg ko, if_neg]
        · exact hQ
        · intro w
          apply z
          unfold itT
          cases o with
          | false => exact absurd rfl ko
          | true => rw [Bool.true_and]; exact decide_eq_true (k4.mp w)
    obtain ⟨d1, E1, F1, V1, M1, i1, i2⟩ := nmbC (rep := decide (wh = 2)) (ps := 2) (lo := loI o) (hi := hiI o) hLn hF hq hok h11 (wh_e h9 hw4 (by omega)).symm
    have eG : (if decide (wh = 2) = true then nmF T N (nI h) (q + 1) (loI o) (hiI o) else xS T N (nI h) (q + 1)) = (if wh = 2 then itF o T N (nI h) (q + 1) else itS o T N (nI h) (q + 1)) := by
      rw [eF, eS]
      by_cases w : wh = 2
      · rw [decide_eq_true w, if_pos rfl, if_pos w]
      · rw [decide_eq_false w, if_neg Bool.false_ne_true, if_neg w]
    rw [eG] at F1 i1 i2
    have hS1 : StC B n d1 T N ln wh h cs P1 := hS.mod M1 (by decide) (by decide) (by decide)
    have s79 : ∀ (b14 : Int32 → Int32 → Int32 → Int32 → Int32 → Int32 → vmD → Prop) (Q : vmD → Prop), (if xok T N (nI h) (q + 1) = true then Forger_data_129 b14 (nI t) (kb o) (nI a) (nI (xat T N (nI h) (q + 1))) (nI i) (nI (if o = true then 1 else 2)) (nI a) d1 Q else Q d1) → Forger_data_79 b14 (nI t) (kb o) (nI a) (nI i) (nI (q + 1)) d Q := by
      intro b14 Q hQ
      have s107 : Forger_data_107 b14 (nI t) (kb o) (nI a) (nI i) (hiI o) (loI o) 2 (nI (q + 1)) d Q := by
        unfold Forger_data_107
        refine E1 _ ?_
        by_cases ok : xok T N (nI h) (q + 1) = true
        · have hx : xat T N (nI h) (q + 1) < T.length := exprLt hL hq
          rw [if_pos ok] at hQ
          rw [if_pos ok, if_neg (nI_pos (by omega))]
          cases o with
          | false =>
            rw [if_pos (show kb false = 0 from rfl)]
            exact hQ
          | true =>
            rw [if_neg (show ¬ kb true = 0 by decide)]
            exact hQ
        · rw [if_neg ok] at hQ
          rw [if_neg ok, if_pos (by decide)]
          exact hQ
      unfold Forger_data_79 Forger_data_95
      cases o with
      | false =>
        rw [if_pos (show kb false = 0 from rfl), if_pos (show kb false = 0 from rfl)]
        exact s107
      | true =>
        rw [if_neg (show ¬ kb true = 0 by decide), if_neg (show ¬ kb true = 0 by decide)]
        exact s107
    by_cases ok : xok T N (nI h) (q + 1) = true
    · have eS0 : itS o T N (nI h) (q + 1) = none := by
        rw [eS]
        exact if_pos ok
      have hx : xat T N (nI h) (q + 1) < T.length := exprLt hL hq
      have hko : (if o = true then 1 else 2) ≤ 2 := by cases o <;> decide
      obtain ⟨d2, E2, P2, M2, W2⟩ := numPC hS1.2.2.2.2 hS1.2.1 hw4 (a := a) (k := if o = true then 1 else 2) hko (fun w => by have := ha w; rw [eO, numO_len] at this; exact this) (by omega) (xvl T N (nI h) (q + 1))
      have hS2 := hS1.pt M2 P2
      rw [eX, eO, numO_len]
      rw [← eO] at hS2 ⊢
      refine ⟨d2, fun Q m hQ => step2 Q m (s79 _ Q ?_), F1.mod M2 (by decide) (by decide) (by decide), fun _ => hS2, (modXF M1).trans (modPF M2 W2), i1, fun _ => i2 ok⟩
      rw [if_pos eS0] at hQ
      rw [if_pos ok]
      unfold Forger_data_129
      rw [valC, V1 ok]
      refine E2 _ ?_
      unfold Forger_data_149
      cases o with
      | false =>
        rw [if_pos (show kb false = 0 from rfl)]
        refine bnd_iff.mpr ?_
        rw [nI_p2]
        exact hQ
      | true =>
        rw [if_neg (show ¬ kb true = 0 by decide)]
        refine bnd_iff.mpr ?_
        rw [nI_p1]
        exact hQ
    · have eS0 : ¬ itS o T N (nI h) (q + 1) = none := by
        rw [eS]
        intro w
        exact ok (xS_none w)
      rw [eX]
      refine ⟨d1, fun Q m hQ => step2 Q m (s79 _ Q ?_), F1, fun w => absurd w eS0, modXF M1, i1, fun w => absurd w eS0⟩
      rw [if_neg eS0] at hQ
      rw [if_neg ok]
      exact hQ
theorem datL {B : Nat → Nat} {n : Nat} {T : List Tk} {N : Nt} {ln wh h : Nat} {cs : Cs} {o : Bool} {t : Nat} (hw4 : wh < 4) : ∀ (f q a i : Nat) (d : vmD) (g : Fl) (P1 : Pt), T.length ≤ q + 1 + f → q + 1 < T.length → i ≤ q → SrcC B n d → StC B n d T N ln wh h cs P1 → FltC d g → OKf g (plaT T (q + 1)) → P1.2.1 + 6000 * f < 2 ^ 28 → h ≤ a → (wh = 3 → a + (dtO B o T N (nI h) f (q + 1)).length ≤ 65536) → (wh ≠ 1 → dtS o T N (nI h) f (q + 1) = none) → ∃ d', (∀ Q : vmD → Prop, (if dtS o T N (nI h) f (q + 1) = none then Forger_goOn (nI t) (nI (a + (dtO B o T N (nI h) f (q + 1)).length - h)) d' Q else Q d') → ∃ m, Forger_data_14 Q m (nI t) (kb o) (nI a) (nI q) 1 (nI i) d) ∧ FltC d' (setF ln (if wh = 2 then dtF o T N (nI h) f (q + 1) else dtS o T N (nI h) f (q + 1)) g) ∧ (dtS o T N (nI h) f (q + 1) = none → StC B n d' T N ln wh h cs (ptW wh a (dtO B o T N (nI h) f (q + 1)) P1)) ∧ ModS wh d d' := by
  intro f
  induction f with
  | zero => intro q a i d g P1 hf hq; omega
  | succ f ih =>
    intro q a i d g P1 hf hq hi hSr hS hF hok hp hha ha hw
    have hLn := hS.1
    have hL := hLn.2.1
    have hTl := hL.2.1
    obtain ⟨x, hx⟩ : ∃ x, x = itX o T N (nI h) (q + 1) := ⟨_, rfl⟩
    have hxl : x < T.length := by rw [hx]; exact itX_lt hL hq
    have hxg : q + 1 ≤ x := by rw [hx]; exact itX_ge
    have hlen := itO_len hLn.1 hL (o := o) (N := N) (here := nI h) hq
    have eS : dtS o T N (nI h) (f + 1) (q + 1) = thF (itS o T N (nI h) (q + 1)) (if (tk T x).1 = 44 then dtS o T N (nI h) f (x + 1) else endF T x) := by
      rw [hx]
      rfl
    have eF : dtF o T N (nI h) (f + 1) (q + 1) = thF (itF o T N (nI h) (q + 1)) (if (tk T x).1 = 44 then dtF o T N (nI h) f (x + 1) else none) := by
      rw [hx]
      rfl
    have eO : dtO B o T N (nI h) (f + 1) (q + 1) = itO B o T N (nI h) (q + 1) ++ (if (tk T x).1 = 44 then dtO B o T N (nI h) f (x + 1) else []) := by
      rw [hx]
      rfl
    rw [eS, eF, eO]
    rw [eS] at hw
    rw [eO] at ha
    rw [List.length_append] at ha ⊢
    have hw0 : wh ≠ 1 → itS o T N (nI h) (q + 1) = none := fun z => (thF_eq (hw z)).1
    obtain ⟨d1, E1, F1, S1, M1, i1, i2⟩ := itmC (t := t) hw4 (q := q) (a := a) (i := i) hq (by omega) hSr hS hF hok (by omega) (fun z => by have := ha z; omega) hw0 (by
      by_cases z : itS o T N (nI h) (q + 1) = none
      · exact Or.inl z
      · refine Or.inr ?_
        have : ¬ wh = 2 := fun w => z (hw0 (by omega))
        rw [if_neg this]
        exact z)
    rw [← hx] at E1 i1 i2
    by_cases z : itS o T N (nI h) (q + 1) = none
    · have S1 := S1 z
      have i2 := i2 z
      rw [z, thF_none]
      rw [z] at F1
      have hSr1 : SrcC B n d1 := hSr.mod M1.1 (by decide) (by decide)
      have hw : wh ≠ 1 → (if (tk T x).1 = 44 then dtS o T N (nI h) f (x + 1) else endF T x) = none := fun w => (thF_eq (hw w)).2
      have k44 : nI (tk T x).1 = 44 ↔ (tk T x).1 = 44 := nI_eq (b := 44) (by have := tk_kd hL x; omega) (by omega)
      rw [z] at i1 i2
      have hok1 : OKf (setF ln (if wh = 2 then itF o T N (nI h) (q + 1) else none) g) (plaT T x) := setF_OK (hok.mono (pl_le hL hxg hxl)) i2 (Nat.le_refl _)
      by_cases kc : (tk T x).1 = 44
      · rw [if_pos kc] at hw ha ⊢
        rw [if_pos kc, if_pos kc]
        have hx1 : x + 1 < T.length := more hL hxl (by omega)
        have hp1 : (ptW wh a (itO B o T N (nI h) (q + 1)) P1).2.1 + 6000 * f < 2 ^ 28 := by
          unfold ptW
          split
          · show P1.2.1 + (itO B o T N (nI h) (q + 1)).length + 6000 * f < 2 ^ 28
            omega
          · omega
        obtain ⟨d2, E2, F2, S2, M2⟩ := ih x (a + (itO B o T N (nI h) (q + 1)).length) (i + 1) d1 _ _ (by omega) hx1 (by omega) hSr1 S1 F1 (hok1.mono (Nat.le_of_lt (pl_lt hL _ _ (Nat.lt_succ_self _) hx1))) hp1 (by omega) (fun w => by have := ha w; omega) hw
        rw [setF_th i1] at F2
        refine ⟨d2, fun Q hQ => ?_, ?_, fun w => ?_, M1.trans M2⟩
        · obtain ⟨m, hm⟩ := E2 Q (by
            rw [← Nat.add_assoc] at hQ
            exact hQ)
          refine ⟨m + 1, E1 Q m ?_⟩
          rw [if_pos z]
          unfold Forger_data_151
          rw [kindC S1.1.2.2.1 (by omega), if_pos (k44.mpr kc)]
          unfold Forger_data_170
          refine bnd_iff.mpr ?_
          rw [nI_p1]
          exact hm
        · have e : (if wh = 2 then thF (itF o T N (nI h) (q + 1)) (dtF o T N (nI h) f (x + 1)) else dtS o T N (nI h) f (x + 1)) = thF (if wh = 2 then itF o T N (nI h) (q + 1) else none) (if wh = 2 then dtF o T N (nI h) f (x + 1) else dtS o T N (nI h) f (x + 1)) := by
            by_cases w : wh = 2
            · rw [if_pos w, if_pos w, if_pos w]
            · rw [if_neg w, if_neg w, if_neg w, thF_none]
          rw [e]
          exact F2
        · rw [ptW_app]
          exact S2 w
      · rw [if_neg kc] at hw ha ⊢
        rw [if_neg kc, if_neg kc, thF_n]
        obtain ⟨d2, E2, F2, M2⟩ := endC S1.1 F1 hxl hok1
        rw [setF_th i1] at F2
        have S2 : StC B n d2 T N ln wh h cs (ptW wh a (itO B o T N (nI h) (q + 1)) P1) := S1.mod M2 (by decide) (by decide) (by decide)
        refine ⟨d2, fun Q hQ => ⟨2, E1 Q 1 ?_⟩, ?_, fun w => ?_, M1.trans (modFF M2)⟩
        · rw [if_pos z]
          unfold Forger_data_151
          rw [kindC S1.1.2.2.1 (by omega), if_neg (fun w => kc (k44.mp w))]
          unfold Forger_data_170
          refine bnd_iff.mpr ?_
          unfold Forger_data_14
          rw [if_pos rfl]
          unfold Forger_data_178
          refine E2 _ ?_
          by_cases w : (tk T x).1 = 0
          · rw [if_pos (show endF T x = none from if_pos w)] at hQ
            rw [decide_eq_true w, if_neg (by decide), S2.2.2.1, pk_sub (by omega)]
            exact hQ
          · rw [if_neg (show ¬ endF T x = none from fun q => w (endF_none q))] at hQ
            rw [decide_eq_false w, if_pos (by decide)]
            exact hQ
        · have e : (if wh = 2 then itF o T N (nI h) (q + 1) else endF T x) = thF (if wh = 2 then itF o T N (nI h) (q + 1) else none) (endF T x) := by
            by_cases w : wh = 2
            · rw [if_pos w, if_pos w, hw (by omega), thF_n]
            · rw [if_neg w, if_neg w, thF_none]
          rw [e]
          exact F2
        · rw [List.append_nil]
          exact S2
    · have w1 : wh = 1 := by
        refine Decidable.byContradiction (fun w => z (hw0 w))
      obtain ⟨v, hv⟩ : ∃ v, itS o T N (nI h) (q + 1) = some v := by
        cases e : itS o T N (nI h) (q + 1) with
        | none => exact absurd e z
        | some v => exact ⟨v, rfl⟩
      have w2 : ¬ wh = 2 := by omega
      rw [if_neg w2] at F1 ⊢
      rw [hv] at F1 E1 ⊢
      rw [thF_some]
      refine ⟨d1, fun Q hQ => ⟨1, E1 Q 0 ?_⟩, F1, fun w => (by cases w), M1⟩
      rw [if_neg (fun w => by cases w)] at hQ ⊢
      exact hQ
theorem datC {B : Nat → Nat} {n : Nat} {c : vmD} {T : List Tk} {N : Nt} {ln wh h : Nat} {cs : Cs} {P : Pt} {f : Fl} (hSr : SrcC B n c) (hS : StC B n c T N ln wh h cs P) (hF : FltC c f) (h0 : f.2.2 = 0) (hw4 : wh < 4) (hh : h ≤ 65536) (hp : P.2.1 < 2 ^ 27) (o : Bool) {t : Nat} (ht : t + 1 < T.length) (hw : wh = 1 ∨ daF B o T N (nI h) t h = none) : StOut B n c T ln wh f (fun c Q => Forger_data (nI t) (kb o) c Q) (if wh = 1 then daF B o T N (nI h) t h else if wh = 2 then dtF o T N (nI h) T.length (t + 1) else none) N (h + (dtO B o T N (nI h) T.length (t + 1)).length) cs (ptW wh h (dtO B o T N (nI h) T.length (t + 1)) P) := by
  obtain ⟨hLn, h9, h11, hC, hP⟩ := id hS
  have hL := hLn.2.1
  have hTl := hL.2.1
  have hlen := dtO_len hLn.1 hL (o := o) (N := N) (here := nI h) T.length (t + 1) ht
  have hno : wh ≠ 1 → dtS o T N (nI h) T.length (t + 1) = none ∧ goF T t h (dtO B o T N (nI h) T.length (t + 1)).length = none := fun z => thF_eq (hw.resolve_left z)
  have hgo : ∀ {s : Nat}, goF T t h s = none → h + s ≤ 65536 := by
    intro s hs
    unfold goF at hs
    by_cases q : 65536 < h + s
    · rw [if_pos q] at hs
      cases hs
    · omega
  obtain ⟨d1, E1, F1, S1, M1⟩ := datL (t := t) (o := o) hw4 T.length t h 0 c f P (by omega) ht (by omega) hSr hS hF (Or.inl h0) (by omega) (Nat.le_refl _) (fun z => hgo (hno (by omega)).2) (fun z => (hno z).1)
  have start : ∀ Q : vmD → Prop, (if dtS o T N (nI h) T.length (t + 1) = none then Forger_goOn (nI t) (nI (dtO B o T N (nI h) T.length (t + 1)).length) d1 Q else Q d1) → Forger_data (nI t) (kb o) c Q := by
    intro Q hQ
    unfold Forger_data
    refine bnd_iff.mpr ?_
    rw [h11]
    refine E1 Q ?_
    rw [Nat.add_sub_cancel_left]
    exact hQ
  by_cases z : dtS o T N (nI h) T.length (t + 1) = none
  · have S1 := S1 z
    rw [z] at F1
    have hok : goF T t h (dtO B o T N (nI h) T.length (t + 1)).length = none ∨ OKf (setF ln (if wh = 2 then dtF o T N (nI h) T.length (t + 1) else none) f) (plaT T t) := by
      by_cases w : wh = 1
      · refine Or.inr (Or.inl ?_)
        rw [if_neg (by omega), setF_none]
        exact h0
      · exact Or.inl (hno w).2
    obtain ⟨d2, E2, F2, g2, M2⟩ := goC S1.1 F1 S1.2.2.1 (t := t) (s := (dtO B o T N (nI h) T.length (t + 1)).length) (by omega) (by omega) hok
    refine ⟨d2, fun Q hQ => start Q ?_, ?_, fun _ => S1.go M2 g2, M1.trans (modGF M2)⟩
    · rw [if_pos z]
      exact E2 _ hQ
    · by_cases w : wh = 1
      · rw [if_neg (show ¬ wh = 2 by omega), setF_none] at F2
        rw [if_pos w]
        unfold daF
        rw [z, thF_none]
        exact F2
      · rw [(hno w).2, setF_none] at F2
        rw [if_neg w]
        exact F2
  · have w : wh = 1 := Decidable.byContradiction (fun w => z (hno w).1)
    have e : daF B o T N (nI h) t h = dtS o T N (nI h) T.length (t + 1) := by
      unfold daF
      cases q : dtS o T N (nI h) T.length (t + 1) with
      | none => exact absurd q z
      | some v => rfl
    rw [if_pos w, e]
    rw [if_neg (show ¬ wh = 2 by omega)] at F1
    refine ⟨d1, fun Q hQ => start Q ?_, F1, fun w => absurd w z, M1⟩
    rw [if_neg z]
    exact hQ
