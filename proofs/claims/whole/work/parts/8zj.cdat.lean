/-! Statements: the class's DS -/
theorem wrD_rep (x : Int32) : ∀ (k h : Nat) (D : Nat → Int32) (a : Nat), wrD D h (List.replicate k x) a = if h ≤ a ∧ a < h + k then x &&& 255 else D a := by
  intro k
  induction k with
  | zero =>
    intro h D a
    rw [if_neg (by omega)]
    rfl
  | succ k ih =>
    intro h D a
    show wrD (u1f D h (x &&& 255)) (h + 1) (List.replicate k x) a = _
    rw [ih]
    by_cases e : a = h
    · subst e
      rw [if_neg (by omega), u1f_eq, if_pos (by omega)]
    · rw [u1f_ne _ _ e]
      by_cases e2 : h + 1 ≤ a ∧ a < h + 1 + k
      · rw [if_pos e2, if_pos (by omega)]
      · rw [if_neg e2, if_neg (by omega)]
theorem fillC {c : vmD} {h k : Nat} (hk : h + k ≤ 65536) (x : Int32) (Q : vmD → Prop) (hQ : Q (setA c 2 (fillF (gA c 2) h (h + k) (Int8.toInt32 (Int32.toInt8 x)).toInt8.toInt32))) : Memory_fill (nI h) (nI k) x c Q := by
  unfold Memory_fill
  rw [if_neg (nI_pos (by omega)), if_neg (nI_pos (by omega)), show (65536 : Int32) - nI k = nI (65536 - k) from pk_sub (a := 65536) (by omega), if_neg (nI_nlt (by omega) (by omega)), nI_add]
  unfold Arrays_fill1_2 Arrays_rangeCheck
  rw [if_neg (nI_nlt (by omega) (by omega)), if_neg (nI_pos (by omega)), if_neg (show ¬ (65536 : Int32) < nI (h + k) from nI_nlt (a := 65536) (by omega) (by omega))]
  exact fill2_ok _ hk k h c rfl _ hQ
theorem ptF {c : vmD} {P : Pt} (hP : PtC c P) {h k : Nat} (hk : h + k ≤ 65536) (h0 : 0 < k) (hp : P.2.1 < 2 ^ 28) (h11 : gF c 20 11 = nI h) (x : Int32) : ∃ c', (∀ Q : vmD → Prop, Q c' → Memory_fill (nI h) (nI k) x c fun d_15 => Forger_count (gF d_15 20 11) (nI k) d_15 Q) ∧ PtC c' (ptL h (List.replicate k x) P) ∧ ModC PF [2] [] c c' := by
  obtain ⟨h1, h2, h3⟩ := hP
  obtain ⟨c1, hc1⟩ : ∃ c1, c1 = setA c 2 (fillF (gA c 2) h (h + k) (Int8.toInt32 (Int32.toInt8 x)).toInt8.toInt32) := ⟨_, rfl⟩
  have f1 : gF c1 = gF c := by rw [hc1]; rfl
  have a2 : gA c1 2 = fillF (gA c 2) h (h + k) (Int8.toInt32 (Int32.toInt8 x)).toInt8.toInt32 := by
    rw [hc1, gA_setA]
  have M1 : ModC PF [2] [] c c1 := by
    refine ⟨fun o f _ => by rw [f1], fun o ho => ?_, fun o _ => by rw [hc1]; rfl, by rw [hc1]; rfl⟩
    rw [hc1, gA_setA_ne _ _ (fun q => ho (by rw [q]; exact List.mem_singleton.mpr rfl))]
  have g12 : gF c1 20 12 = nI P.2.1 := by rw [f1]; exact h2
  refine ⟨sF (if P.2.1 = 0 then sF c1 20 13 (nI h) else c1) 20 12 (nI (P.2.1 + k)), fun Q hQ => fillC hk x _ ?_, ⟨?_, ?_, ?_⟩, ?_⟩
  · rw [← hc1]
    rw [f1, h11, cntC g12 (by omega)]
    exact hQ
  · intro b hb
    have hA : gA (sF (if P.2.1 = 0 then sF c1 20 13 (nI h) else c1) 20 12 (nI (P.2.1 + k))) 2 = gA c1 2 := by
      by_cases z : P.2.1 = 0
      · rw [if_pos z]
        simp only [gA_sA, gA_sA_ne, gA_sF, gA_sG, gA_sL, gF_sA, gF_sF, gF_sF_ne, gF_sG, gF_sL, gG_sA, gG_sF, gG_sL, gG_sGe, gG_sG_ne, gL_sA, gL_sF, gL_sG, gL_sLe, gL_sL_ne, u1f_eq, u1f_ne, bnd_iff, not_false_eq_true]
      · rw [if_neg z]
        simp only [gA_sA, gA_sA_ne, gA_sF, gA_sG, gA_sL, gF_sA, gF_sF, gF_sF_ne, gF_sG, gF_sL, gG_sA, gG_sF, gG_sL, gG_sGe, gG_sG_ne, gL_sA, gL_sF, gL_sG, gL_sLe, gL_sL_ne, u1f_eq, u1f_ne, bnd_iff, not_false_eq_true]
    rw [hA, a2]
    show wrD P.1 h (List.replicate k x) b = _
    rw [wrD_rep]
    unfold fillF
    by_cases e : h ≤ b ∧ b < h + k
    · rw [if_pos e, if_pos e, bp_b2]
    · rw [if_neg e, if_neg e]
      exact h1 b hb
  · rw [gF_sF, u1f_eq]
    show nI (P.2.1 + k) = nI (P.2.1 + (List.replicate k x).length)
    rw [List.length_replicate]
  · show gF (sF (if P.2.1 = 0 then sF c1 20 13 (nI h) else c1) 20 12 (nI (P.2.1 + k))) 20 13 = nI (if P.2.1 = 0 ∧ 0 < (List.replicate k x).length then h else P.2.2)
    rw [gF_sF, u1f_ne _ _ (by decide), List.length_replicate]
    by_cases z : P.2.1 = 0
    · rw [if_pos z, if_pos ⟨z, h0⟩, gF_sF, u1f_eq]
    · rw [if_neg z, if_neg (fun q => z q.1), f1]
      exact h3
  · refine ModC.sF ?_ (by decide) _
    by_cases z : P.2.1 = 0
    · rw [if_pos z]
      exact M1.sF (by decide) _
    · rw [if_neg z]
      exact M1
theorem StC.pt {B : Nat → Nat} {n : Nat} {c c' : vmD} {T : List Tk} {N : Nt} {ln wh h : Nat} {cs : Cs} {P P' : Pt} (hS : StC B n c T N ln wh h cs P) (M : ModC PF [2] [] c c') (hP : PtC c' P') : StC B n c' T N ln wh h cs P' := by
  obtain ⟨a, b, e, g, i⟩ := hS
  refine ⟨a.mod M (by decide) (by decide) (by decide), ?_, ?_, g.mod M (by decide) (by decide), hP⟩
  · rw [M.1 20 9 (by decide)]
    exact b
  · rw [M.1 20 11 (by decide)]
    exact e
theorem modGF {wh : Nat} {c c' : vmD} (h : ModC GF [] [] c c') : ModS wh c c' := h.toS (by decide) (by decide) (by decide) (by decide)
theorem modPF {wh : Nat} {c c' : vmD} (h : ModC PF [2] [] c c') (w : ¬ wh = 3 → gA c' 2 = gA c 2) : ModS wh c c' := ⟨h.mono (by decide) (by decide) (by decide), w⟩
theorem spTail {B : Nat → Nat} {n : Nat} {c : vmD} {T : List Tk} {N : Nt} {ln wh h : Nat} {cs : Cs} {P : Pt} {f : Fl} {F : Fo} {a b : Nat} (hS : StC B n c T N ln wh h cs P) (hF : FltC c (setF ln F f)) (h0 : f.2.2 = 0) (hi : InF F a b) (hw4 : wh < 4) {t e : Nat} (ht : t < T.length) (he : e < T.length) (hok : OKf (setF ln F f) (plaT T e)) {sz fill : Int32} {k : Nat} (hn : F = none → sz = nI k ∧ k ≤ 65535) (hh : h ≤ 65536) (hp : P.2.1 < 2 ^ 28) (h3 : wh = 3 → goF T t h k = none) : ∃ c', (∀ Q : vmD → Prop, Q c' → Forger_space_63 (nI t) (nI e) sz fill c Q) ∧ FltC c' (setF ln (thF F (thF (endF T e) (goF T t h k))) f) ∧ (thF F (thF (endF T e) (goF T t h k)) = none → StC B n c' T N ln wh (h + k) cs (ptW wh h (List.replicate k fill) P)) ∧ ModS wh c c' := by
  obtain ⟨hLn, h9, h11, hC, hP⟩ := id hS
  have hL := hLn.2.1
  have hTl := hL.2.1
  obtain ⟨c1, E1, F1, M1⟩ := endC hLn hF he hok
  rw [setF_th hi] at F1
  have hS1 : StC B n c1 T N ln wh h cs P := hS.mod M1 (by decide) (by decide) (by decide)
  have start : ∀ Q : vmD → Prop, (if (tk T e).1 = 0 then (Faults_any c1 fun r_11 d_10 => if r_11 = 0 then (if (gF d_10 20 9) = 3 then (if (0 : Int32) < sz then (Memory_fill (gF d_10 20 11) sz fill d_10 fun d_15 => Forger_count (gF d_15 20 11) sz d_15 fun d_16 => Forger_space_121 (nI t) sz d_16 Q) else (Forger_space_121 (nI t) sz d_10 Q)) else (Forger_space_121 (nI t) sz d_10 Q)) else (Q d_10)) else Q c1) → Forger_space_63 (nI t) (nI e) sz fill c Q := by
    intro Q hQ
    unfold Forger_space_63
    rw [if_neg (nI_pos (by omega))]
    refine E1 _ ?_
    by_cases z : (tk T e).1 = 0
    · rw [if_pos z] at hQ
      rw [decide_eq_true z, if_neg (by decide)]
      exact hQ
    · rw [if_neg z] at hQ
      rw [decide_eq_false z, if_pos (by decide)]
      exact hQ
  by_cases z : (tk T e).1 = 0
  · have e0 : endF T e = none := if_pos z
    rw [e0, thF_n] at F1
    rw [e0, thF_none]
    cases F with
    | some q =>
      have hq := hi q rfl
      refine ⟨c1, fun Q hQ => start Q ?_, F1, fun hn => (by cases hn), modFF M1⟩
      rw [if_pos z]
      have e21 : gF c1 21 2 = nI q.1 := by
        have := F1.2.2.1
        unfold setF at this
        rw [if_pos h0] at this
        exact this
      unfold Faults_any
      rw [e21, if_neg (show ¬ nI q.1 = 0 from nI_ne0 (by omega) (by omega))]
      dsimp only
      rw [if_neg (by decide)]
      exact hQ
    | none =>
      obtain ⟨rfl, hk⟩ := hn rfl
      rw [setF_none] at F1
      rw [thF_none]
      have start2 : ∀ Q : vmD → Prop, (if wh = 3 then (if 0 < k then (Memory_fill (nI h) (nI k) fill c1 fun d_15 => Forger_count (gF d_15 20 11) (nI k) d_15 fun d_16 => Forger_space_121 (nI t) (nI k) d_16 Q) else (Forger_space_121 (nI t) (nI k) c1 Q)) else (Forger_space_121 (nI t) (nI k) c1 Q)) → Forger_space_63 (nI t) (nI e) (nI k) fill c Q := by
        intro Q hQ
        refine start Q ?_
        rw [if_pos z]
        unfold Faults_any
        rw [show gF c1 21 2 = 0 by rw [F1.2.2.1, h0]; rfl, if_pos rfl]
        dsimp only
        rw [if_pos rfl, hS1.2.2.1]
        have w := w3 hS1.2.1 hw4
        by_cases z3 : wh = 3
        · rw [if_pos z3] at hQ
          rw [if_pos (w.mpr z3)]
          by_cases zk : 0 < k
          · rw [if_pos zk] at hQ
            rw [if_pos (show (0 : Int32) < nI k from nI_lt (a := 0) zk (by omega))]
            exact hQ
          · rw [if_neg zk] at hQ
            rw [if_neg (show ¬ (0 : Int32) < nI k from nI_nlt (a := 0) (by omega) (by omega))]
            exact hQ
        · rw [if_neg z3] at hQ
          rw [if_neg (fun q => z3 (w.mp q))]
          exact hQ
      by_cases zw : wh = 3 ∧ 0 < k
      · have hg := h3 zw.1
        have hle : h + k ≤ 65536 := by
          unfold goF at hg
          by_cases q : 65536 < h + k
          · rw [if_pos q] at hg
            cases hg
          · omega
        obtain ⟨c2, E2, P2, M2⟩ := ptF hS1.2.2.2.2 hle zw.2 hp hS1.2.2.1 fill
        have hS2 := hS1.pt M2 P2
        obtain ⟨c3, E3, F3, g3, M3⟩ := goC hS2.1 (F1.mod M2 (by decide) (by decide) (by decide)) hS2.2.2.1 ht (s := k) (by omega) (Or.inl hg)
        refine ⟨c3, fun Q hQ => start2 Q ?_, F3, fun _ => ?_, ((modFF M1).trans (modPF M2 (fun q => absurd zw.1 q))).trans (modGF M3)⟩
        · rw [if_pos zw.1, if_pos zw.2]
          refine E2 _ ?_
          unfold Forger_space_121
          exact E3 _ hQ
        · have e : ptW wh h (List.replicate k fill) P = ptL h (List.replicate k fill) P := if_pos zw.1
          rw [e]
          exact hS2.go M3 g3
      · obtain ⟨c3, E3, F3, g3, M3⟩ := goC hS1.1 F1 hS1.2.2.1 ht (s := k) (by omega) (Or.inr (Or.inl h0))
        refine ⟨c3, fun Q hQ => start2 Q ?_, F3, fun _ => ?_, (modFF M1).trans (modGF M3)⟩
        · have : Forger_space_121 (nI t) (nI k) c1 Q := by
            unfold Forger_space_121
            exact E3 _ hQ
          by_cases z3 : wh = 3
          · rw [if_pos z3, if_neg (fun q => zw ⟨z3, q⟩)]
            exact this
          · rw [if_neg z3]
            exact this
        · have e : ptW wh h (List.replicate k fill) P = P := by
            by_cases z3 : wh = 3
            · have : k = 0 := by
                have := fun q => zw ⟨z3, q⟩
                omega
              subst this
              exact ptW_nil _ _ _
            · exact if_neg z3
          rw [e]
          exact hS1.go M3 g3
  · have e0 : endF T e = rfF T e := if_neg z
    rw [e0] at F1 ⊢
    have e1 : thF F (thF (rfF T e) (goF T t h k)) = thF F (rfF T e) := by
      cases F <;> rfl
    rw [e1]
    refine ⟨c1, fun Q hQ => start Q ?_, F1, fun hn => (by cases F <;> cases hn), modFF M1⟩
    rw [if_neg z]
    exact hQ
/-- DS -/
def spX (T : List Tk) (N : Nt) (here : Int32) (t : Nat) : Nat := xat T N here (t + 1)
def spC (T : List Tk) (N : Nt) (here : Int32) (t : Nat) : Bool := decide ((tk T (spX T N here t)).1 = 44)
def spE (T : List Tk) (N : Nt) (here : Int32) (t : Nat) : Nat := if spC T N here t = true then xat T N here (spX T N here t + 1) else spX T N here t
def spS (T : List Tk) (N : Nt) (here : Int32) (t : Nat) : Fo := if spC T N here t = true then xS T N here (spX T N here t + 1) else none
def spB (T : List Tk) (N : Nt) (here : Int32) (t : Nat) : Fo := if spC T N here t = true then nmF T N here (spX T N here t + 1) (-128) 255 else none
def spN (T : List Tk) (N : Nt) (here : Int32) (t : Nat) : Nat := (xvl T N here (t + 1)).toNatClampNeg
def spV (T : List Tk) (N : Nt) (here : Int32) (t : Nat) : Int32 := if spC T N here t = true then xvl T N here (spX T N here t + 1) else 0
def spF (T : List Tk) (N : Nt) (here : Int32) (t h : Nat) : Fo := thF (nmF T N here (t + 1) 0 65535) (thF (spS T N here t) (thF (endF T (spE T N here t)) (goF T t h (spN T N here t))))
def spO (T : List Tk) (N : Nt) (here : Int32) (t : Nat) : List Int32 := List.replicate (spN T N here t) (spV T N here t)
theorem nmF_none {T : List Tk} {N : Nt} {here : Int32} {t : Nat} {lo hi : Int32} (h : nmF T N here t lo hi = none) : (xtr T N here t).1 = 0 ∧ xok T N here t = true ∧ ¬ xvl T N here t < lo ∧ ¬ hi < xvl T N here t := by
  obtain ⟨a, b⟩ := thF_eq h
  obtain ⟨a1, a2⟩ := xF_none a
  exact ⟨a1, a2, rgF_none b⟩
theorem spcC {B : Nat → Nat} {n : Nat} {c : vmD} {T : List Tk} {N : Nt} {ln wh h : Nat} {cs : Cs} {P : Pt} {f : Fl} (hS : StC B n c T N ln wh h cs P) (hF : FltC c f) (h0 : f.2.2 = 0) (hw4 : wh < 4) (hh : h ≤ 65536) (hp : P.2.1 < 2 ^ 28) {t : Nat} (ht : t + 1 < T.length) (hw : wh = 1 ∨ spF T N (nI h) t h = none) : StOut B n c T ln wh f (fun c Q => Forger_space (nI t) c Q) (if wh = 1 then spF T N (nI h) t h else if wh = 2 then spB T N (nI h) t else none) N (h + spN T N (nI h) t) cs (ptW wh h (spO T N (nI h) t) P) := by
  obtain ⟨hLn, h9, h11, hC, hP⟩ := id hS
  have hL := hLn.2.1
  have hTl := hL.2.1
  have h13 : wh = 3 → goF T t h (spN T N (nI h) t) = none := by
    intro z
    have hn := hw.resolve_left (by omega)
    exact (thF_eq (thF_eq (thF_eq hn).2).2).2
  obtain ⟨G, hG⟩ : ∃ G, G = (if decide (wh = 1) = true then nmF T N (nI h) (t + 1) 0 65535 else xS T N (nI h) (t + 1)) := ⟨_, rfl⟩
  obtain ⟨c1, E1, F1, V1, M1, i1, i2⟩ := nmbC (rep := decide (wh = 1)) (ps := 1) (lo := 0) (hi := 65535) hLn hF ht (Or.inl h0) h11 (wh_e h9 hw4 (by omega)).symm
  rw [← hG] at F1 i1 i2
  have hS1 : StC B n c1 T N ln wh h cs P := hS.mod M1 (by decide) (by decide) (by decide)
  have hnm : wh ≠ 1 → nmF T N (nI h) (t + 1) 0 65535 = none ∧ spS T N (nI h) t = none ∧ endF T (spE T N (nI h) t) = none ∧ goF T t h (spN T N (nI h) t) = none := by
    intro z
    have hn := hw.resolve_left z
    obtain ⟨a, b⟩ := thF_eq hn
    obtain ⟨b1, b2⟩ := thF_eq b
    obtain ⟨b3, b4⟩ := thF_eq b2
    exact ⟨a, b1, b3, b4⟩
  have start : ∀ Q : vmD → Prop, (if xok T N (nI h) (t + 1) = true then (Tokens_kind (nI (xat T N (nI h) (t + 1))) c1 fun r_19 d_18 => if r_19 = 44 then (Forger_readNumber (nI (xat T N (nI h) (t + 1)) + 1) 2 (-128) 255 d_18 fun r_22 d_21 => Expression_value d_21 fun r_24 d_23 => Forger_space_63 (nI t) r_22 (gA c1 31 0) r_24 d_23 Q) else (Forger_space_63 (nI t) (nI (xat T N (nI h) (t + 1))) (gA c1 31 0) 0 d_18 Q)) else Q c1) → Forger_space (nI t) c Q := by
    intro Q hQ
    unfold Forger_space
    rw [nI_p1]
    refine E1 _ ?_
    rw [valC]
    by_cases ok : xok T N (nI h) (t + 1) = true
    · rw [if_pos ok] at hQ
      have hx : xat T N (nI h) (t + 1) < T.length := exprLt hL ht
      rw [if_pos ok, if_neg (nI_pos (by omega))]
      exact hQ
    · rw [if_neg ok] at hQ
      rw [if_neg ok, if_pos (by decide)]
      unfold Forger_space_63
      rw [if_pos (by decide)]
      exact hQ
  by_cases ok : xok T N (nI h) (t + 1) = true
  · have hx : xat T N (nI h) (t + 1) < T.length := exprLt hL ht
    have hok1 : OKf (setF ln G f) (plaT T (xat T N (nI h) (t + 1))) := setF_OK (Or.inl h0) (i2 ok) (Nat.le_refl _)
    have k44 : nI (tk T (xat T N (nI h) (t + 1))).1 = 44 ↔ (tk T (xat T N (nI h) (t + 1))).1 = 44 := nI_eq (b := 44) (by have := tk_kd hL (xat T N (nI h) (t + 1)); omega) (by omega)
    have szn : ∀ F' : Fo, F' = G ∨ (∃ b, F' = thF G b) → F' = none → gA c1 31 0 = nI (spN T N (nI h) t) ∧ spN T N (nI h) t ≤ 65535 := by
      intro F' hF' hz
      have hg : G = none := by
        rcases hF' with rfl | ⟨b, rfl⟩
        · exact hz
        · exact (thF_eq hz).1
      have hnn : nmF T N (nI h) (t + 1) 0 65535 = none := by
        by_cases z : wh = 1
        · rw [hG, decide_eq_true z, if_pos rfl] at hg
          exact hg
        · exact (hnm z).1
      obtain ⟨-, -, r1, r2⟩ := nmF_none hnn
      obtain ⟨j, hj, e⟩ := nat_of_le (n := 65535) (N := 65535) rfl (by omega) r1 r2
      have es : spN T N (nI h) t = j := by
        unfold spN
        rw [e, nI_clamp (by omega)]
      rw [V1 ok, es]
      exact ⟨e, by omega⟩
    by_cases kc : (tk T (xat T N (nI h) (t + 1))).1 = 44
    · have eC : spC T N (nI h) t = true := decide_eq_true kc
      have ht2 : spX T N (nI h) t + 1 < T.length := more hL hx (show 1 < (tk T (xat T N (nI h) (t + 1))).1 by omega)
      obtain ⟨x, hxx⟩ : ∃ x, x = spX T N (nI h) t + 1 := ⟨_, rfl⟩
      obtain ⟨G2, hG2⟩ : ∃ G2, G2 = (if decide (wh = 2) = true then nmF T N (nI h) x (-128) 255 else xS T N (nI h) x) := ⟨_, rfl⟩
      have ht2x : x < T.length := by rw [hxx]; exact ht2
      have hpl : plaT T (xat T N (nI h) (t + 1)) < plaT T x := by
        rw [hxx]
        exact pl_lt hL _ _ (Nat.lt_succ_self _) ht2
      obtain ⟨c2, E2, F2, V2, M2, j1, j2⟩ := nmbC (rep := decide (wh = 2)) (ps := 2) (lo := -128) (hi := 255) hS1.1 F1 ht2x (hok1.mono (by omega)) hS1.2.2.1 (wh_e hS1.2.1 hw4 (by omega)).symm
      rw [← hG2] at F2 j1 j2
      rw [setF_th i1] at F2
      have hS2 : StC B n c2 T N ln wh h cs P := hS1.mod M2 (by decide) (by decide) (by decide)
      have eE : spE T N (nI h) t = xat T N (nI h) x := by
        unfold spE
        rw [if_pos eC, ← hxx]
      have eS : spS T N (nI h) t = xS T N (nI h) x := by
        unfold spS
        rw [if_pos eC, ← hxx]
      have eB : spB T N (nI h) t = nmF T N (nI h) x (-128) 255 := by
        unfold spB
        rw [if_pos eC, ← hxx]
      have eV : spV T N (nI h) t = xvl T N (nI h) x := by
        unfold spV
        rw [if_pos eC, ← hxx]
      have start2 : ∀ Q : vmD → Prop, (if xok T N (nI h) x = true then Forger_space_63 (nI t) (nI (xat T N (nI h) x)) (gA c1 31 0) (gA c2 31 0) c2 Q else Q c2) → Forger_space (nI t) c Q := by
        intro Q hQ
        refine start Q ?_
        rw [if_pos ok, kindC hS1.1.2.2.1 (by omega), if_pos (k44.mpr kc), nI_p1]
        have e2 : xat T N (nI h) (t + 1) + 1 = x := hxx.symm
        rw [e2]
        refine E2 _ ?_
        rw [valC]
        by_cases ok2 : xok T N (nI h) x = true
        · rw [if_pos ok2] at hQ ⊢
          exact hQ
        · rw [if_neg ok2] at hQ ⊢
          unfold Forger_space_63
          rw [if_pos (by decide)]
          exact hQ
      by_cases ok2 : xok T N (nI h) x = true
      · have hx2 : xat T N (nI h) x < T.length := exprLt hL ht2x
        have i3 : InF (thF G G2) 0 (plaT T (xat T N (nI h) x)) := (((i2 ok).mono (Nat.zero_le _) (Nat.le_refl _)).mono (Nat.zero_le _) (by have := pl_le hL (xat_ge (N := N) (here := nI h)) hx2; omega)).th ((j2 ok2).mono (Nat.zero_le _) (Nat.le_refl _))
        obtain ⟨c3, E3, F3, S3, M3⟩ := spTail (k := spN T N (nI h) t) (fill := gA c2 31 0) (sz := gA c1 31 0) hS2 F2 h0 i3 hw4 (t := t) (by omega) hx2 (setF_OK (Or.inl h0) i3 (Nat.le_refl _)) (szn _ (Or.inr ⟨G2, rfl⟩)) hh hp h13
        have eF : (if wh = 1 then spF T N (nI h) t h else if wh = 2 then spB T N (nI h) t else none) = thF (thF G G2) (thF (endF T (xat T N (nI h) x)) (goF T t h (spN T N (nI h) t))) := by
          by_cases z : wh = 1
          · subst z
            rw [if_pos rfl, hG, hG2, decide_eq_true rfl, if_pos rfl, show decide (1 = 2) = false from rfl, if_neg Bool.false_ne_true, thF_assoc]
            unfold spF
            rw [eS, eE]
          · obtain ⟨a1, a2, a3, a4⟩ := hnm z
            rw [if_neg z, hG, decide_eq_false z, if_neg Bool.false_ne_true, ← eE, a3, a4]
            have e1 : xS T N (nI h) (t + 1) = none := if_pos ok
            rw [e1, thF_none, thF_none, thF_n, hG2]
            by_cases z2 : wh = 2
            · rw [if_pos z2, decide_eq_true z2, if_pos rfl, eB]
            · rw [if_neg z2, decide_eq_false z2, if_neg Bool.false_ne_true]
              exact (if_pos ok2).symm
        rw [eF]
        have eO : List.replicate (spN T N (nI h) t) (gA c2 31 0) = spO T N (nI h) t := by
          unfold spO
          rw [eV, V2 ok2]
        rw [eO] at S3
        refine ⟨c3, fun Q hQ => start2 Q ?_, F3, S3, ((modXF M1).trans (modXF M2)).trans M3⟩
        rw [if_pos ok2]
        exact E3 Q hQ
      · have eF : (if wh = 1 then spF T N (nI h) t h else if wh = 2 then spB T N (nI h) t else none) = thF G G2 ∧ ¬ thF G G2 = none := by
          have e2 : xS T N (nI h) x = rfF T (xat T N (nI h) x) := if_neg ok2
          by_cases z : wh = 1
          · subst z
            rw [if_pos rfl, hG, hG2, decide_eq_true rfl, if_pos rfl, show decide (1 = 2) = false from rfl, if_neg Bool.false_ne_true]
            unfold spF
            rw [eS, e2]
            constructor
            · cases nmF T N (nI h) (t + 1) 0 65535 <;> rfl
            · cases nmF T N (nI h) (t + 1) 0 65535 <;> exact fun q => by cases q
          · obtain ⟨a1, a2, a3, a4⟩ := hnm z
            rw [eS, e2] at a2
            cases a2
        rw [eF.1]
        refine ⟨c2, fun Q hQ => start2 Q ?_, F2, fun hn => absurd hn eF.2, (modXF M1).trans (modXF M2)⟩
        rw [if_neg ok2]
        exact hQ
    · have eC : ¬ spC T N (nI h) t = true := by
        unfold spC
        rw [decide_eq_true_eq]
        exact kc
      have eE : spE T N (nI h) t = xat T N (nI h) (t + 1) := if_neg eC
      have eS : spS T N (nI h) t = none := if_neg eC
      have eB : spB T N (nI h) t = none := if_neg eC
      have eV : spV T N (nI h) t = 0 := if_neg eC
      obtain ⟨c3, E3, F3, S3, M3⟩ := spTail (k := spN T N (nI h) t) (fill := 0) (sz := gA c1 31 0) hS1 F1 h0 (i2 ok) hw4 (t := t) (by omega) hx hok1 (szn _ (Or.inl rfl)) hh hp h13
      have eF : (if wh = 1 then spF T N (nI h) t h else if wh = 2 then spB T N (nI h) t else none) = thF G (thF (endF T (xat T N (nI h) (t + 1))) (goF T t h (spN T N (nI h) t))) := by
        by_cases z : wh = 1
        · rw [if_pos z, hG, decide_eq_true z, if_pos rfl]
          unfold spF
          rw [eS, eE, thF_none]
        · obtain ⟨a1, a2, a3, a4⟩ := hnm z
          rw [if_neg z, hG, decide_eq_false z, if_neg Bool.false_ne_true, ← eE, a3, a4]
          have e1 : xS T N (nI h) (t + 1) = none := if_pos ok
          rw [e1, thF_none, thF_none, eB]
          split <;> rfl
      rw [eF]
      have eO : List.replicate (spN T N (nI h) t) 0 = spO T N (nI h) t := by
        unfold spO
        rw [eV]
      rw [eO] at S3
      refine ⟨c3, fun Q hQ => start Q ?_, F3, S3, (modXF M1).trans M3⟩
      rw [if_pos ok, kindC hS1.1.2.2.1 (by omega), if_neg (fun q => kc (k44.mp q))]
      exact E3 Q hQ
  · have z : wh = 1 := by
      refine Decidable.byContradiction (fun q => ok ?_)
      exact (nmF_none (hnm q).1).2.1
    have eG : G = nmF T N (nI h) (t + 1) 0 65535 := by
      rw [hG, decide_eq_true z, if_pos rfl]
    have e2 : ∃ q, nmF T N (nI h) (t + 1) 0 65535 = some q := by
      cases e : nmF T N (nI h) (t + 1) 0 65535 with
      | none => exact absurd (nmF_none e).2.1 ok
      | some q => exact ⟨q, rfl⟩
    obtain ⟨q, hq⟩ := e2
    have eF : (if wh = 1 then spF T N (nI h) t h else if wh = 2 then spB T N (nI h) t else none) = some q := by
      rw [if_pos z]
      unfold spF
      rw [hq, thF_some]
    rw [eF]
    rw [eG, hq] at F1
    refine ⟨c1, fun Q hQ => start Q ?_, F1, fun hn => (by cases hn), modXF M1⟩
    rw [if_neg ok]
    exact hQ
