/-! Lines: the class's statements, all of them -/
def inBo (T : List Tk) (N : Nt) (here : Int32) (t w h : Nat) : Fo := match inX T N here t w with
  | none => none
  | some x => inB T N here t h x
def inOo (T : List Tk) (N : Nt) (here : Int32) (t w h : Nat) : List Int32 := match inX T N here t w with
  | none => []
  | some x => inO T N here t h x
theorem insC {B : Nat → Nat} {n : Nat} {c : vmD} {T : List Tk} {N : Nt} {ln wh h : Nat} {cs : Cs} {P : Pt} {f : Fl} (hS : StC B n c T N ln wh h cs P) (hF : FltC c f) (h0 : f.2.2 = 0) (hw4 : wh < 4) (hh : h ≤ 65536) (hp : P.2.1 < 2 ^ 27) {t w : Nat} (hwd : w < 107) (ht : t + 1 < T.length) (hw : wh = 1 ∨ inF T N (nI h) t w h = none) : StOut B n c T ln wh f (fun c Q => Forger_instruction (nI t) (nI w) c Q) (if wh = 1 then inF T N (nI h) t w h else if wh = 2 then inBo T N (nI h) t w h else none) N (h + (inOo T N (nI h) t w h).length) cs (ptW wh h (inOo T N (nI h) t w h) P) := by
  obtain ⟨hLn, h9, h11, hC, hP⟩ := id hS
  have hL := hLn.2.1
  have hTl := hL.2.1
  have w2 : gF c 20 9 = 2 ↔ wh = 2 := by
    rw [h9]
    exact nI_eq (b := 2) (by omega) (by omega)
  obtain ⟨c1, E1, F1, O1, M1⟩ := opsC (rep := decide (wh = 2)) hLn hF (w := t) (nI w) ht (show decide (wh = 2) = decide (gF c 20 9 = 2) from (wh_e h9 hw4 (by omega)).symm) h11
  have M1' : ModS wh c c1 := M1.toS (by decide) (by decide) (by decide) (by decide)
  have hS1 : StC B n c1 T N ln wh h cs P := hS.mod M1 (by decide) (by decide) (by decide)
  by_cases ok : lsOk T N (nI h) (t + 1) = true
  · obtain ⟨o8, oA, oB⟩ := O1 ok
    have hO : OpsC c1 T N (nI h) (t + 1) := OpsC.of o8 oA oB
    have hk : ∀ i, kdN T N (nI h) (t + 1) i < 36 := by
      intro i
      unfold kdN
      split
      · exact (oKd_36 _ _).1
      · omega
    have hadj : ∀ i, adjK w (kdN T N (nI h) (t + 1) i) < 64 := fun i => by
      have := (adjK_lt (w := w) (k := kdN T N (nI h) (t + 1) i)).2.1 (hk i)
      omega
    have start : ∀ Q : vmD → Prop, (match inX T N (nI h) t w with | none => (Tokens_blame (nI t) 6 c1 fun d_18 => Q d_18) | some x => (Shapes_size (nI x) c1 fun r_20 d_19 => if (gF d_19 20 9) = 2 then (Forger_checkOperands (nI x) r_20 d_19 fun d_22 => Forger_instruction_221 (nI t) r_20 d_22 Q) else (if (gF d_19 20 9) = 3 then (Forger_putInstruction (nI x) r_20 d_19 fun d_25 => Forger_instruction_221 (nI t) r_20 d_25 Q) else (Forger_instruction_221 (nI t) r_20 d_19 Q)))) → Forger_instruction (nI t) (nI w) c Q := by
      intro Q hQ
      refine E1 Q ?_
      rw [if_pos ok]
      unfold instP
      have q0 : ∀ Q' : Int32 → vmD → Prop, Operands_kind 0 (nI w) c1 Q' = Q' (nI (adjK w (kdN T N (nI h) (t + 1) 0))) c1 := fun Q' => opkC (i := 0) (by omega) hwd (by have := hk 0; omega) (hO.2.1 0 (by omega)).1 Q'
      have q1 : ∀ Q' : Int32 → vmD → Prop, Operands_kind 1 (nI w) c1 Q' = Q' (nI (adjK w (kdN T N (nI h) (t + 1) 1))) c1 := fun Q' => opkC (i := 1) (by omega) hwd (by have := hk 1; omega) (hO.2.1 1 (by omega)).1 Q'
      rw [q0, q1]
      refine findTC hS1.1.2.2.2.2.1 hwd (hadj 0) (hadj 1) _ ?_
      cases e : inX T N (nI h) t w with
      | none =>
        rw [e] at hQ
        have e2 : fnT w (adjK w (kdN T N (nI h) (t + 1) 0)) (adjK w (kdN T N (nI h) (t + 1) 1)) = none := by
          unfold inX at e
          cases g : fnT w (adjK w (kdN T N (nI h) (t + 1) 0)) (adjK w (kdN T N (nI h) (t + 1) 1)) with
          | none => rfl
          | some v => rw [g] at e; cases e
        rw [e2]
        dsimp only
        rw [if_pos (by decide)]
        exact hQ
      | some x =>
        rw [e] at hQ
        obtain ⟨hx, -⟩ := inX_ok hwd e
        have e2 : ∃ v, fnT w (adjK w (kdN T N (nI h) (t + 1) 0)) (adjK w (kdN T N (nI h) (t + 1) 1)) = some v ∧ v.2.2 = x := by
          unfold inX at e
          cases g : fnT w (adjK w (kdN T N (nI h) (t + 1) 0)) (adjK w (kdN T N (nI h) (t + 1) 1)) with
          | none => rw [g] at e; cases e
          | some v => rw [g] at e; exact ⟨v, rfl, Option.some.inj e⟩
        obtain ⟨v, e2, e3⟩ := e2
        rw [e2]
        dsimp only
        subst e3
        rw [if_neg (nI_pos (by omega))]
        exact hQ
    have eF : inF T N (nI h) t w h = (match inX T N (nI h) t w with | none => some (6, plaT T t) | some x => goF T t h (szN x)) := if_pos ok
    cases e : inX T N (nI h) t w with
    | none =>
      rw [e] at start eF
      have z : wh = 1 := by
        rcases hw with z | z
        · exact z
        · rw [eF] at z
          cases z
      have F1' : FltC c1 f := by
        rw [show decide (wh = 2) = false from decide_eq_false (by omega), lsFl_F h0, if_pos ok, setF_none] at F1
        exact F1
      obtain ⟨c2, E2, F2, M2⟩ := badC hS1.1 F1' (k := 6) (t := t) (by omega) (by omega) (Or.inl h0)
      refine ⟨c2, fun Q hQ => start Q (E2 _ hQ), by rw [if_pos z, eF]; exact F2, fun hn => ?_, M1'.trans (modFF M2)⟩
      rw [if_pos z, eF] at hn
      cases hn
    | some x =>
      rw [e] at start eF
      dsimp only at start eF
      obtain ⟨hx, hsz, hs4, -, -, ht0, -⟩ := inX_ok hwd e
      have eOo : inOo T N (nI h) t w h = inO T N (nI h) t h x := by unfold inOo; rw [e]
      have eBo : inBo T N (nI h) t w h = inB T N (nI h) t h x := by unfold inBo; rw [e]
      rw [eOo, eBo, inO_len]
      have start2 : ∀ Q : vmD → Prop, (if wh = 2 then (Forger_checkOperands (nI x) (nI (szN x)) c1 fun d_22 => Forger_instruction_221 (nI t) (nI (szN x)) d_22 Q) else (if wh = 3 then (Forger_putInstruction (nI x) (nI (szN x)) c1 fun d_25 => Forger_instruction_221 (nI t) (nI (szN x)) d_25 Q) else (Forger_instruction_221 (nI t) (nI (szN x)) c1 Q))) → Forger_instruction (nI t) (nI w) c Q := by
        intro Q hQ
        refine start Q ?_
        rw [size_e hS1.1.2.2.2.2.1 hx ht0, hsz]
        have k2 : gF c1 20 9 = 2 ↔ wh = 2 := by
          rw [hS1.2.1]
          exact nI_eq (b := 2) (by omega) (by omega)
        have k3 := w3 hS1.2.1 hw4
        by_cases z2 : wh = 2
        · rw [if_pos z2] at hQ
          rw [if_pos (k2.mpr z2)]
          exact hQ
        · rw [if_neg z2] at hQ
          rw [if_neg (fun q => z2 (k2.mp q))]
          by_cases z3 : wh = 3
          · rw [if_pos z3] at hQ
            rw [if_pos (k3.mpr z3)]
            exact hQ
          · rw [if_neg z3] at hQ
            rw [if_neg (fun q => z3 (k3.mp q))]
            exact hQ
      have hgo : ∀ {s : Nat}, goF T t h s = none → h + s ≤ 65536 := by
        intro s hs
        unfold goF at hs
        by_cases q : 65536 < h + s
        · rw [if_pos q] at hs
          cases hs
        · omega
      by_cases z2 : wh = 2
      · have hg : goF T t h (szN x) = none := by
          rw [← eF]
          exact hw.resolve_left (by omega)
        rw [decide_eq_true z2] at F1
        obtain ⟨c2, E2, F2, M2⟩ := chkL hx ht0 (fun i hi q => noFi hwd e hi q) (lsN T N (nI h) (t + 1)) 0 c1 _ (by omega) hS1.1 F1 hO hS1.2.2.1
        rw [chkF hL h0 ht ok] at F2
        have hS2 : StC B n c2 T N ln wh h cs P := hS1.mod M2 (by decide) (by decide) (by decide)
        obtain ⟨c3, E3, F3, g3, M3⟩ := goC hS2.1 F2 hS2.2.2.1 (t := t) (s := szN x) (by omega) (by omega) (Or.inl hg)
        rw [hg, setF_none] at F3
        refine ⟨c3, fun Q hQ => start2 Q ?_, by rw [if_neg (by omega), if_pos z2]; exact F3, fun _ => ?_, (M1'.trans (modFF M2)).trans (modGF M3)⟩
        · rw [if_pos z2]
          refine E2 _ ?_
          unfold Forger_instruction_221
          exact E3 _ hQ
        · have e3 : ptW wh h (inO T N (nI h) t h x) P = P := if_neg (by omega)
          rw [e3]
          exact hS2.go M3 g3
      · have F1' : FltC c1 f := by
          rw [decide_eq_false z2, lsFl_F h0, if_pos ok, setF_none] at F1
          exact F1
        by_cases z3 : wh = 3
        · have hg : goF T t h (szN x) = none := by
            rw [← eF]
            exact hw.resolve_left (by omega)
          obtain ⟨c2, E2, P2, M2⟩ := piC hwd e hS1.1 hO (by rw [hS1.2.1, z3]) hS1.2.2.1 hS1.2.2.2.2 (hgo hg) (by omega)
          have hS2 := hS1.pt M2 P2
          obtain ⟨c3, E3, F3, g3, M3⟩ := goC hS2.1 (F1'.mod M2 (by decide) (by decide) (by decide)) hS2.2.2.1 (t := t) (s := szN x) (by omega) (by omega) (Or.inl hg)
          rw [hg, setF_none] at F3
          refine ⟨c3, fun Q hQ => start2 Q ?_, by rw [if_neg (by omega), if_neg z2, setF_none]; exact F3, fun _ => ?_, (M1'.trans (modPF M2 (fun q => absurd z3 q))).trans (modGF M3)⟩
          · rw [if_neg z2, if_pos z3]
            refine E2 _ ?_
            unfold Forger_instruction_221
            exact E3 _ hQ
          · have := hS2.go M3 g3
            rw [z3]
            rw [z3] at this
            exact this
        · obtain ⟨c3, E3, F3, g3, M3⟩ := goC hS1.1 F1' hS1.2.2.1 (t := t) (s := szN x) (by omega) (by omega) (Or.inr (Or.inl h0))
          refine ⟨c3, fun Q hQ => start2 Q ?_, ?_, fun _ => ?_, M1'.trans (modGF M3)⟩
          · rw [if_neg z2, if_neg z3]
            unfold Forger_instruction_221
            exact E3 _ hQ
          · by_cases z1 : wh = 1
            · rw [if_pos z1, eF]
              exact F3
            · rw [if_neg z1, if_neg z2, setF_none]
              have hg : goF T t h (szN x) = none := by
                rw [← eF]
                exact hw.resolve_left z1
              rw [hg, setF_none] at F3
              exact F3
          · have e3 : ptW wh h (inO T N (nI h) t h x) P = P := if_neg z3
            rw [e3]
            exact hS1.go M3 g3
  · have eF : inF T N (nI h) t w h = rfF T (lsB T N (nI h) (t + 1)) := if_neg ok
    have z : wh = 1 := by
      rcases hw with z | z
      · exact z
      · rw [eF] at z
        cases z
    rw [show decide (wh = 2) = false from decide_eq_false (by omega), lsFl_F h0, if_neg ok] at F1
    refine ⟨c1, fun Q hQ => E1 Q ?_, by rw [if_pos z, eF]; exact F1, fun hn => ?_, M1'⟩
    · rw [if_neg ok]
      exact hQ
    · rw [if_pos z, eF] at hn
      cases hn
/-- a statement -/
def isEq (T : List Tk) (t : Nat) : Bool := decide ((tk T (t + 1)).1 = 2) && decide (idN (tk T (t + 1)).2.2.2 = 100)
def stF (B : Nat → Nat) (T : List Tk) (N : Nt) (h : Nat) (cs : Cs) (t : Nat) : Fo :=
  if (tk T t).1 = 0 then none else if ¬ (tk T t).1 = 2 then rfF T t else if isEq T t = true then eqF T N (nI h) t
  else if 32 ≤ idN (tk T t).2.2.2 ∧ idN (tk T t).2.2.2 < 99 then inF T N (nI h) t (idN (tk T t).2.2.2) h
  else if idN (tk T t).2.2.2 = 99 then orgF T N (nI h) t
  else if idN (tk T t).2.2.2 = 101 then daF B true T N (nI h) t h
  else if idN (tk T t).2.2.2 = 102 then daF B false T N (nI h) t h
  else if idN (tk T t).2.2.2 = 103 then spF T N (nI h) t h
  else if idN (tk T t).2.2.2 = 104 ∨ idN (tk T t).2.2.2 = 105 ∨ idN (tk T t).2.2.2 = 106 then cdF T N (nI h) t (idN (tk T t).2.2.2) cs
  else some (6, plaT T t)
def stB (T : List Tk) (N : Nt) (h : Nat) (t : Nat) : Fo :=
  if (tk T t).1 = 0 then none else if ¬ (tk T t).1 = 2 then none else if isEq T t = true then none
  else if 32 ≤ idN (tk T t).2.2.2 ∧ idN (tk T t).2.2.2 < 99 then inBo T N (nI h) t (idN (tk T t).2.2.2) h
  else if idN (tk T t).2.2.2 = 99 then none
  else if idN (tk T t).2.2.2 = 101 then dtF true T N (nI h) T.length (t + 1)
  else if idN (tk T t).2.2.2 = 102 then dtF false T N (nI h) T.length (t + 1)
  else if idN (tk T t).2.2.2 = 103 then spB T N (nI h) t
  else none
def stO (B : Nat → Nat) (T : List Tk) (N : Nt) (h : Nat) (t : Nat) : List Int32 :=
  if (tk T t).1 = 0 then [] else if ¬ (tk T t).1 = 2 then [] else if isEq T t = true then []
  else if 32 ≤ idN (tk T t).2.2.2 ∧ idN (tk T t).2.2.2 < 99 then inOo T N (nI h) t (idN (tk T t).2.2.2) h
  else if idN (tk T t).2.2.2 = 99 then []
  else if idN (tk T t).2.2.2 = 101 then dtO B true T N (nI h) T.length (t + 1)
  else if idN (tk T t).2.2.2 = 102 then dtO B false T N (nI h) T.length (t + 1)
  else if idN (tk T t).2.2.2 = 103 then spO T N (nI h) t
  else []
def stH (B : Nat → Nat) (T : List Tk) (N : Nt) (h : Nat) (t : Nat) : Nat := if (tk T t).1 = 2 ∧ ¬ isEq T t = true ∧ idN (tk T t).2.2.2 = 99 then (xvl T N (nI h) (t + 1)).toNatClampNeg else h + (stO B T N h t).length
def stCs (T : List Tk) (N : Nt) (h : Nat) (cs : Cs) (t : Nat) : Cs := if (tk T t).1 = 2 ∧ ¬ isEq T t = true ∧ (idN (tk T t).2.2.2 = 104 ∨ idN (tk T t).2.2.2 = 105 ∨ idN (tk T t).2.2.2 = 106) then pas (idN (tk T t).2.2.2) (decide (¬ xvl T N (nI h) (t + 1) = 0)) cs else cs
def stFr (wh : Nat) (T : List Tk) (N : Nt) (t : Nat) : Fo := if (tk T t).1 = 2 ∧ isEq T t = true then frF wh T N t else none
def stNt (wh : Nat) (T : List Tk) (N : Nt) (h t : Nat) : Nt := if (tk T t).1 = 2 ∧ isEq T t = true then tlN wh T N t (xvl T N (nI h) (t + 2)) else N
theorem stmC {B : Nat → Nat} {n : Nat} {c : vmD} {T : List Tk} {N : Nt} {ln wh h : Nat} {cs : Cs} {P : Pt} {f : Fl} (hSr : SrcC B n c) (hS : StC B n c T N ln wh h cs P) (hF : FltC c f) (h0 : f.2.2 = 0) (hw4 : wh < 4) (hh : h ≤ 65536) (hp : P.2.1 < 2 ^ 27) {t : Nat} (ht : t < T.length) (hw : wh = 1 ∨ stF B T N h cs t = none) : StOut B n c T ln wh f (fun c Q => Forger_readStatement (nI t) c Q) (if wh = 1 then thF (stFr wh T N t) (stF B T N h cs t) else if wh = 2 then stB T N h t else none) (stNt wh T N h t) (stH B T N h t) (stCs T N h cs t) (ptW wh h (stO B T N h t) P) := by
  obtain ⟨hLn, h9, h11, hC, hP⟩ := id hS
  have hL := hLn.2.1
  have hTl := hL.2.1
  have hT := hLn.2.2.1
  have hkd := tk_kd hL t
  have hkd1 := tk_kd hL (t + 1)
  have p12 : (38 : Nat) ^ 12 < 2 ^ 63 := by decide
  have k0 : nI (tk T t).1 = 0 ↔ (tk T t).1 = 0 := nI_eq (b := 0) (by omega) (by omega)
  have k2 : nI (tk T t).1 = 2 ↔ (tk T t).1 = 2 := nI_eq (b := 2) (by omega) (by omega)
  have k21 : nI (tk T (t + 1)).1 = 2 ↔ (tk T (t + 1)).1 = 2 := nI_eq (b := 2) (by omega) (by omega)
  by_cases z0 : (tk T t).1 = 0
  · have n2 : ¬ (tk T t).1 = 2 := by omega
    have e1 : stF B T N h cs t = none := if_pos z0
    have e2 : stB T N h t = none := if_pos z0
    have e3 : stO B T N h t = [] := if_pos z0
    have e4 : stH B T N h t = h + (stO B T N h t).length := if_neg (fun q => n2 q.1)
    have e5 : stCs T N h cs t = cs := if_neg (fun q => n2 q.1)
    have e6 : stFr wh T N t = none := if_neg (fun q => n2 q.1)
    have e7 : stNt wh T N h t = N := if_neg (fun q => n2 q.1)
    have eF : (if wh = 1 then thF (stFr wh T N t) (stF B T N h cs t) else if wh = 2 then stB T N h t else none) = none := by
      rw [e1, e2, e6]
      repeat' split
      all_goals rfl
    rw [eF, e7, e5, e4, e3, ptW_nil]
    refine ⟨c, fun Q hQ => ?_, by rw [setF_none]; exact hF, fun _ => hS, ModS.refl _ _⟩
    show Forger_readStatement (nI t) c Q
    unfold Forger_readStatement
    rw [kindC hT (by omega), if_pos (k0.mpr z0)]
    exact hQ
  by_cases z2 : (tk T t).1 = 2
  · have ht1 : t + 1 < T.length := more hL ht (by omega)
    have hK := nm_K hL ht z2
    have hid := idN_lt (tk T t).2.2.2
    have a1 : ¬ ¬ (tk T t).1 = 2 := fun q => q z2
    have start : ∀ Q : vmD → Prop, (if isEq T t = true then (Forger_equate (nI t) c fun d_19 => Q d_19) else Forger_readStatement_91 (nI t) (nI (idN (tk T t).2.2.2)) c Q) → Forger_readStatement (nI t) c Q := by
      intro Q hQ
      unfold Forger_readStatement
      rw [kindC hT (by omega), if_neg (fun q => z0 (k0.mp q)), kindC hT (by omega), if_pos (k2.mpr z2), valueC hT (by omega)]
      refine idOfC hLn.2.2.2.2.1 (by omega) _ ?_
      rw [nI_p1, kindC hT (by omega)]
      by_cases y : (tk T (t + 1)).1 = 2
      · rw [if_pos (k21.mpr y), valueC hT (by omega)]
        have hK1 := nm_K hL ht1 y
        refine idOfC hLn.2.2.2.2.1 (by omega) _ ?_
        have hid1 := idN_lt (tk T (t + 1)).2.2.2
        have k100 : nI (idN (tk T (t + 1)).2.2.2) = 100 ↔ idN (tk T (t + 1)).2.2.2 = 100 := nI_eq (b := 100) (by omega) (by omega)
        by_cases v : idN (tk T (t + 1)).2.2.2 = 100
        · have e : isEq T t = true := by
            unfold isEq
            rw [decide_eq_true y, decide_eq_true v]
            rfl
          rw [if_pos e] at hQ
          rw [if_pos (k100.mpr v)]
          exact hQ
        · have e : isEq T t = false := by
            unfold isEq
            rw [decide_eq_false v, Bool.and_false]
          rw [e, if_neg Bool.false_ne_true] at hQ
          rw [if_neg (fun q => v (k100.mp q))]
          exact hQ
      · have e : isEq T t = false := by
          unfold isEq
          rw [decide_eq_false y, Bool.false_and]
        rw [e, if_neg Bool.false_ne_true] at hQ
        rw [if_neg (fun q => y (k21.mp q))]
        exact hQ
    by_cases q : isEq T t = true
    · have y : (tk T (t + 1)).1 = 2 := by
        unfold isEq at q
        rw [Bool.and_eq_true, decide_eq_true_eq, decide_eq_true_eq] at q
        exact q.1
      have ht2 : t + 2 < T.length := more hL ht1 (by omega)
      have e1 : stF B T N h cs t = eqF T N (nI h) t := by
        unfold stF
        rw [if_neg z0, if_neg a1, if_pos q]
      have e2 : stB T N h t = none := by
        unfold stB
        rw [if_neg z0, if_neg a1, if_pos q]
      have e3 : stO B T N h t = [] := by
        unfold stO
        rw [if_neg z0, if_neg a1, if_pos q]
      have e4 : stH B T N h t = h + (stO B T N h t).length := if_neg (fun w => w.2.1 q)
      have e5 : stCs T N h cs t = cs := if_neg (fun w => w.2.1 q)
      have e6 : stFr wh T N t = frF wh T N t := if_pos ⟨z2, q⟩
      have e7 : stNt wh T N h t = tlN wh T N t (xvl T N (nI h) (t + 2)) := if_pos ⟨z2, q⟩
      rw [e1] at hw
      obtain ⟨c1, E1, F1, S1, M1⟩ := equC hS hF h0 hw4 ht2 z2 hw
      have eF : (if wh = 1 then thF (stFr wh T N t) (stF B T N h cs t) else if wh = 2 then stB T N h t else none) = (if wh = 1 then thF (frF wh T N t) (eqF T N (nI h) t) else none) := by
        rw [e1, e2, e6]
        split
        · rfl
        · split <;> rfl
      rw [eF, e7, e5, e4, e3, ptW_nil]
      refine ⟨c1, fun Q hQ => start Q ?_, F1, S1, M1⟩
      rw [if_pos q]
      exact E1 _ hQ
    · have e6 : stFr wh T N t = none := if_neg (fun w => q w.2)
      have e7 : stNt wh T N h t = N := if_neg (fun w => q w.2)
      rw [e6, thF_none, e7]
      have start : ∀ Q : vmD → Prop, Forger_readStatement_91 (nI t) (nI (idN (tk T t).2.2.2)) c Q → Forger_readStatement (nI t) c Q := fun Q hQ => start Q (by rw [if_neg q]; exact hQ)
      obtain ⟨w, hwd⟩ : ∃ w, w = idN (tk T t).2.2.2 := ⟨_, rfl⟩
      have n99 : ∀ m : Nat, m < 200 → (nI w = nI m ↔ w = m) := fun m hm => nI_eq (by omega) (by omega)
      by_cases wi : 32 ≤ w ∧ w < 99
      · have wi2 := wi
        rw [hwd] at wi2
        have e1 : stF B T N h cs t = inF T N (nI h) t w h := by
          unfold stF
          rw [if_neg z0, if_neg a1, if_neg q, if_pos wi2, hwd]
        have e2 : stB T N h t = inBo T N (nI h) t w h := by
          unfold stB
          rw [if_neg z0, if_neg a1, if_neg q, if_pos wi2, hwd]
        have e3 : stO B T N h t = inOo T N (nI h) t w h := by
          unfold stO
          rw [if_neg z0, if_neg a1, if_neg q, if_pos wi2, hwd]
        have e4 : stH B T N h t = h + (stO B T N h t).length := if_neg (fun v => by have := v.2.2; omega)
        have e5 : stCs T N h cs t = cs := if_neg (fun v => by have := v.2.2; omega)
        rw [e1] at hw
        obtain ⟨c1, E1, F1, S1, M1⟩ := insC hS hF h0 hw4 hh hp (t := t) (w := w) (by omega) ht1 hw
        rw [e1, e2, e5, e4, e3]
        refine ⟨c1, fun Q hQ => start Q ?_, F1, S1, M1⟩
        rw [← hwd]
        unfold Forger_readStatement_91
        rw [if_neg (show ¬ nI w < (32 : Int32) from nI_nlt (b := 32) (by omega) (by omega)), if_pos (show nI w < (99 : Int32) from nI_lt (b := 99) (by omega) (by omega))]
        exact E1 _ hQ
      · have wi2 := wi
        rw [hwd] at wi2
        have start : ∀ Q : vmD → Prop, Forger_readStatement_110 (nI t) (nI w) c Q → Forger_readStatement (nI t) c Q := by
          intro Q hQ
          refine start Q ?_
          rw [← hwd]
          unfold Forger_readStatement_91
          by_cases v : w < 32
          · rw [if_pos (show nI w < (32 : Int32) from nI_lt (b := 32) v (by omega))]
            exact hQ
          · rw [if_neg (show ¬ nI w < (32 : Int32) from nI_nlt (b := 32) (by omega) (by omega)), if_neg (show ¬ nI w < (99 : Int32) from nI_nlt (b := 99) (by omega) (by omega))]
            exact hQ
        have d1 : stF B T N h cs t = (if w = 99 then orgF T N (nI h) t else if w = 101 then daF B true T N (nI h) t h else if w = 102 then daF B false T N (nI h) t h else if w = 103 then spF T N (nI h) t h else if w = 104 ∨ w = 105 ∨ w = 106 then cdF T N (nI h) t w cs else some (6, plaT T t)) := by
          unfold stF
          rw [if_neg z0, if_neg a1, if_neg q, if_neg wi2, hwd]
        have d2 : stB T N h t = (if w = 99 then none else if w = 101 then dtF true T N (nI h) T.length (t + 1) else if w = 102 then dtF false T N (nI h) T.length (t + 1) else if w = 103 then spB T N (nI h) t else none) := by
          unfold stB
          rw [if_neg z0, if_neg a1, if_neg q, if_neg wi2, hwd]
        have d3 : stO B T N h t = (if w = 99 then [] else if w = 101 then dtO B true T N (nI h) T.length (t + 1) else if w = 102 then dtO B false T N (nI h) T.length (t + 1) else if w = 103 then spO T N (nI h) t else []) := by
          unfold stO
          rw [if_neg z0, if_neg a1, if_neg q, if_neg wi2, hwd]
        have d4 : ¬ w = 99 → stH B T N h t = h + (stO B T N h t).length := fun v => if_neg (fun u => v (hwd.trans u.2.2))
        have d5 : ¬ (w = 104 ∨ w = 105 ∨ w = 106) → stCs T N h cs t = cs := fun v => if_neg (fun u => v (hwd ▸ u.2.2))
        have c99 : nI w = 99 ↔ w = 99 := n99 99 (by omega)
        have c101 : nI w = 101 ↔ w = 101 := n99 101 (by omega)
        have c102 : nI w = 102 ↔ w = 102 := n99 102 (by omega)
        have c103 : nI w = 103 ↔ w = 103 := n99 103 (by omega)
        have c104 : nI w = 104 ↔ w = 104 := n99 104 (by omega)
        have c105 : nI w = 105 ↔ w = 105 := n99 105 (by omega)
        have c106 : nI w = 106 ↔ w = 106 := n99 106 (by omega)
        by_cases w99 : w = 99
        · rw [if_pos w99] at d1 d2 d3
          have e4 : stH B T N h t = (xvl T N (nI h) (t + 1)).toNatClampNeg := if_pos ⟨z2, q, hwd ▸ w99⟩
          rw [d1] at hw
          obtain ⟨c1, E1, F1, S1, M1⟩ := orgC hS hF h0 hw4 ht1 hw
          rw [d1, d2, d3, d5 (by omega), e4, ptW_nil]
          refine ⟨c1, fun Q hQ => start Q ?_, ?_, fun v => S1 ?_, M1⟩
          · unfold Forger_readStatement_110
            rw [if_pos (c99.mpr w99)]
            exact E1 _ hQ
          · have : (if wh = 1 then orgF T N (nI h) t else if wh = 2 then none else none) = (if wh = 1 then orgF T N (nI h) t else none) := by
              split
              · rfl
              · split <;> rfl
            rw [this]
            exact F1
          · by_cases u : wh = 1
            · rw [if_pos u] at v ⊢
              exact v
            · rw [if_neg u]
        · rw [if_neg w99] at d1 d2 d3
          rw [d4 w99]
          by_cases w101 : w = 101
          · rw [if_pos w101] at d1 d2 d3
            rw [d1] at hw
            obtain ⟨c1, E1, F1, S1, M1⟩ := datC hSr hS hF h0 hw4 hh hp true ht1 hw
            rw [d1, d2, d3, d5 (by omega)]
            refine ⟨c1, fun Q hQ => start Q ?_, F1, S1, M1⟩
            unfold Forger_readStatement_110
            rw [if_neg (fun v => w99 (c99.mp v)), if_pos (c101.mpr w101)]
            exact E1 _ hQ
          · rw [if_neg w101] at d1 d2 d3
            by_cases w102 : w = 102
            · rw [if_pos w102] at d1 d2 d3
              rw [d1] at hw
              obtain ⟨c1, E1, F1, S1, M1⟩ := datC hSr hS hF h0 hw4 hh hp false ht1 hw
              rw [d1, d2, d3, d5 (by omega)]
              refine ⟨c1, fun Q hQ => start Q ?_, F1, S1, M1⟩
              unfold Forger_readStatement_110
              rw [if_neg (fun v => w99 (c99.mp v)), if_neg (fun v => w101 (c101.mp v)), if_pos (c102.mpr w102)]
              exact E1 _ hQ
            · rw [if_neg w102] at d1 d2 d3
              by_cases w103 : w = 103
              · rw [if_pos w103] at d1 d2 d3
                rw [d1] at hw
                obtain ⟨c1, E1, F1, S1, M1⟩ := spcC hS hF h0 hw4 hh (by omega) ht1 hw
                have e8 : (spO T N (nI h) t).length = spN T N (nI h) t := List.length_replicate
                rw [d1, d2, d3, d5 (by omega), e8]
                refine ⟨c1, fun Q hQ => start Q ?_, F1, S1, M1⟩
                unfold Forger_readStatement_110
                rw [if_neg (fun v => w99 (c99.mp v)), if_neg (fun v => w101 (c101.mp v)), if_neg (fun v => w102 (c102.mp v)), if_pos (c103.mpr w103)]
                exact E1 _ hQ
              · rw [if_neg w103] at d1 d2 d3
                rw [d3, d2, ptW_nil]
                by_cases wc : w = 104 ∨ w = 105 ∨ w = 106
                · rw [if_pos wc] at d1
                  have e5 : stCs T N h cs t = pas w (decide (¬ xvl T N (nI h) (t + 1) = 0)) cs := by
                    unfold stCs
                    rw [← hwd]
                    exact if_pos ⟨z2, q, wc⟩
                  rw [d1] at hw
                  obtain ⟨c1, E1, F1, S1, M1⟩ := cndC hS hF h0 hw4 wc ht1 hw
                  have eF : (if wh = 1 then cdF T N (nI h) t w cs else if wh = 2 then none else none) = (if wh = 1 then cdF T N (nI h) t w cs else none) := by
                    split
                    · rfl
                    · split <;> rfl
                  rw [d1, e5, eF]
                  refine ⟨c1, fun Q hQ => start Q ?_, F1, S1, M1⟩
                  unfold Forger_readStatement_110
                  rw [if_neg (fun v => w99 (c99.mp v)), if_neg (fun v => w101 (c101.mp v)), if_neg (fun v => w102 (c102.mp v)), if_neg (fun v => w103 (c103.mp v))]
                  have E1 := E1 _ hQ
                  by_cases v4 : w = 104
                  · rw [if_pos (c104.mpr v4)]
                    exact E1
                  · rw [if_neg (fun v => v4 (c104.mp v))]
                    by_cases v5 : w = 105
                    · rw [if_pos (c105.mpr v5)]
                      exact E1
                    · rw [if_neg (fun v => v5 (c105.mp v)), if_pos (c106.mpr (by omega))]
                      exact E1
                · rw [if_neg wc] at d1
                  have z : wh = 1 := by
                    rcases hw with z | z
                    · exact z
                    · rw [d1] at z
                      cases z
                  obtain ⟨c1, E1, F1, M1⟩ := badC hLn hF (k := 6) ht (by omega) (Or.inl h0)
                  rw [d1, d5 wc, if_pos z]
                  refine ⟨c1, fun Q hQ => start Q ?_, F1, fun v => (by cases v), modFF M1⟩
                  unfold Forger_readStatement_110
                  rw [if_neg (fun v => w99 (c99.mp v)), if_neg (fun v => w101 (c101.mp v)), if_neg (fun v => w102 (c102.mp v)), if_neg (fun v => w103 (c103.mp v)), if_neg (fun v => wc (Or.inl (c104.mp v))), if_neg (fun v => wc (Or.inr (Or.inl (c105.mp v)))), if_neg (fun v => wc (Or.inr (Or.inr (c106.mp v))))]
                  exact E1 _ hQ
  · have e1 : stF B T N h cs t = rfF T t := by
      unfold stF
      rw [if_neg z0, if_pos z2]
    have z : wh = 1 := by
      rcases hw with z | z
      · exact z
      · rw [e1] at z
        cases z
    have e6 : stFr wh T N t = none := if_neg (fun q => z2 q.1)
    obtain ⟨c1, E1, F1, M1⟩ := refC hLn hF ht (Or.inl h0)
    rw [if_pos z, e6, thF_none, e1]
    refine ⟨c1, fun Q hQ => ?_, F1, fun v => (by cases v), modFF M1⟩
    show Forger_readStatement (nI t) c Q
    unfold Forger_readStatement
    rw [kindC hT (by omega), if_neg (fun q => z0 (k0.mp q)), kindC hT (by omega), if_neg (fun q => z2 (k2.mp q))]
    exact E1 _ hQ
