/-! Statements: the class's EQU, ORG, IF, ELSE, ENDIF -/
theorem endC {B : Nat → Nat} {n : Nat} {c : vmD} {T : List Tk} {N : Nt} {ln : Nat} {f : Fl} (hLn : LnC B n c T N ln) (hF : FltC c f) {t : Nat} (ht : t < T.length) (hok : OKf f (plaT T t)) : ∃ c', (∀ Q : Int32 → vmD → Prop, Q (kb (decide ((tk T t).1 = 0))) c' → Forger_endsLine (nI t) c Q) ∧ FltC c' (setF ln (endF T t) f) ∧ ModC FF [] [] c c' := by
  obtain ⟨c', E, F, M⟩ := endsLineC hLn hF (t := t) (by have := hLn.2.1.2.1; omega)
  refine ⟨c', E, ?_, M⟩
  unfold endF
  by_cases z : (tk T t).1 = 0
  · rw [if_pos z] at F ⊢
    rw [setF_none]
    exact F
  · rw [if_neg z] at F ⊢
    have e : addF f ln (plaT T t) (rfc T t) = setF ln (rfF T t) f := setF_add hok
    rw [← e]
    exact F
theorem badC {B : Nat → Nat} {n : Nat} {c : vmD} {T : List Tk} {N : Nt} {ln : Nat} {f : Fl} (hLn : LnC B n c T N ln) (hF : FltC c f) {t k : Nat} (ht : t < T.length) (hk : k < 10) (hok : OKf f (plaT T t)) : ∃ c', (∀ Q : vmD → Prop, Q c' → Tokens_blame (nI t) (nI k) c Q) ∧ FltC c' (setF ln (some (k, plaT T t)) f) ∧ ModC FF [] [] c c' := by
  obtain ⟨c', E, F, M⟩ := blameC hLn hF (t := t) (k := k) (by have := hLn.2.1.2.1; omega) (by omega)
  refine ⟨c', E, ?_, M⟩
  rw [← setF_add hok]
  exact F
theorem refC {B : Nat → Nat} {n : Nat} {c : vmD} {T : List Tk} {N : Nt} {ln : Nat} {f : Fl} (hLn : LnC B n c T N ln) (hF : FltC c f) {t : Nat} (ht : t < T.length) (hok : OKf f (plaT T t)) : ∃ c', (∀ Q : vmD → Prop, Q c' → Tokens_refuse (nI t) c Q) ∧ FltC c' (setF ln (rfF T t) f) ∧ ModC FF [] [] c c' := by
  obtain ⟨c', E, F, M⟩ := refuseC hLn hF (t := t) (by have := hLn.2.1.2.1; omega)
  refine ⟨c', E, ?_, M⟩
  have e : addF f ln (plaT T t) (rfc T t) = setF ln (rfF T t) f := setF_add hok
  rw [← e]
  exact F
theorem expC {B : Nat → Nat} {n : Nat} {T : List Tk} {N : Nt} {ln : Nat} (here : Int32) (rep : Bool) {t : Nat} {c : vmD} {f : Fl} (hLn : LnC B n c T N ln) (hF : FltC c f) (ht : t < T.length) (hok : OKf f (plaT T t)) : ∃ c', (∀ Q : Int32 → vmD → Prop, Q (if xok T N here t = true then nI (xat T N here t) else -1) c' → Expression_read (nI t) here (kb rep) c Q) ∧ FltC c' (setF ln (if rep = true then xF T N here t else xS T N here t) f) ∧ (xok T N here t = true → gA c' 31 0 = xvl T N here t) ∧ ModC XFF XA [] c c' ∧ InF (if rep = true then xF T N here t else xS T N here t) (plaT T t) (plaT T (xat T N here t) + 1) ∧ (xok T N here t = true → InF (if rep = true then xF T N here t else xS T N here t) (plaT T t) (plaT T (xat T N here t))) := by
  have hL := hLn.2.1
  obtain ⟨c1, E1, F1, V1, M1, l1, l2, l3, l6⟩ := readC (rep := rep) (here := here) hLn hF ht
  rw [xfl_set hL ht hok l3] at F1
  refine ⟨c1, E1, F1, fun q => (V1 q).1, M1, ?_, fun ok => ?_⟩
  · split
    · exact xF_in hL ht l3 l6
    · exact xS_in hL ht
  · split
    · rw [xF_ok ok]
      exact xT_in hL ht l3 l6
    · unfold xS
      rw [if_pos ok]
      exact InF.none _ _
/-- an exp, and the line's end behind it -/
theorem rdEnd {B : Nat → Nat} {n : Nat} {T : List Tk} {N : Nt} {ln : Nat} {here : Int32} {c : vmD} {f : Fl} {q : Nat} {G : Fo} {R : (Int32 → vmD → Prop) → Prop} (hLn : LnC B n c T N ln) (hq : q < T.length) (hok : OKf f (plaT T q)) (hx : xok T N here q = true ∨ ¬ G = none) (hR : ∃ c', (∀ Q : Int32 → vmD → Prop, Q (if xok T N here q = true then nI (xat T N here q) else -1) c' → R Q) ∧ FltC c' (setF ln G f) ∧ (xok T N here q = true → gA c' 31 0 = xvl T N here q) ∧ ModC XFF XA [] c c' ∧ InF G (plaT T q) (plaT T (xat T N here q) + 1) ∧ (xok T N here q = true → InF G (plaT T q) (plaT T (xat T N here q)))) : ∃ c', (∀ (Q : vmD → Prop) (K : vmD → (vmD → Prop) → Prop), (if xok T N here q = true ∧ (tk T (xat T N here q)).1 = 0 then K c' Q else Q c') → R (fun r_2 d_1 => if r_2 < 0 then (Q d_1) else (Forger_endsLine r_2 d_1 fun r_5 d_4 => if r_5 = 0 then (Q d_4) else (K d_4 Q)))) ∧ FltC c' (setF ln (thF G (endF T (xat T N here q))) f) ∧ (xok T N here q = true → gA c' 31 0 = xvl T N here q) ∧ ModC XFF XA [] c c' ∧ (thF G (endF T (xat T N here q)) = none → xok T N here q = true ∧ (tk T (xat T N here q)).1 = 0) := by
  obtain ⟨c1, E1, F1, V1, M1, i1, i2⟩ := hR
  have hL := hLn.2.1
  have hTl := hL.2.1
  have hx2 : xat T N here q < T.length := exprLt hL hq
  have hLn1 : LnC B n c1 T N ln := hLn.mod M1 (by decide) (by decide) (by decide)
  by_cases ok : xok T N here q = true
  · have hok1 : OKf (setF ln G f) (plaT T (xat T N here q)) := setF_OK (hok.mono (pl_le hL xat_ge hx2)) (i2 ok) (Nat.le_refl _)
    obtain ⟨c2, E2, F2, M2⟩ := endC hLn1 F1 hx2 hok1
    rw [setF_th i1] at F2
    refine ⟨c2, fun Q K hQ => E1 _ ?_, F2, fun _ => ?_, M1.trans (M2.mono (by decide) (by decide) (by decide)), fun h => ⟨ok, ?_⟩⟩
    · rw [if_pos ok, if_neg (nI_pos (by omega))]
      refine E2 _ ?_
      by_cases z : (tk T (xat T N here q)).1 = 0
      · rw [if_pos ⟨ok, z⟩] at hQ
        rw [decide_eq_true z, if_neg (by decide)]
        exact hQ
      · rw [if_neg (fun w => z w.2)] at hQ
        rw [decide_eq_false z, if_pos (by decide)]
        exact hQ
    · rw [M2.2.1 31 (by decide)]
      exact V1 ok
    · have := (thF_eq h).2
      unfold endF at this
      by_cases z : (tk T (xat T N here q)).1 = 0
      · exact z
      · rw [if_neg z] at this
        cases this
  · have hG := hx.resolve_left ok
    have e : thF G (endF T (xat T N here q)) = G := by
      cases G with
      | none => exact absurd rfl hG
      | some g => rfl
    refine ⟨c1, fun Q K hQ => E1 _ ?_, by rw [e]; exact F1, V1, M1, fun h => absurd (thF_eq h).1 hG⟩
    rw [if_neg (fun w => ok w.1)] at hQ
    rw [if_neg ok, if_pos (by decide)]
    exact hQ
/-- what has been put -/
abbrev Pt : Type := (Nat → Int32) × Nat × Nat
def PtC (c : vmD) (P : Pt) : Prop := (∀ a, a < 65536 → P.1 a = gA c 2 a &&& 255) ∧ gF c 20 12 = nI P.2.1 ∧ gF c 20 13 = nI P.2.2
def StC (B : Nat → Nat) (n : Nat) (c : vmD) (T : List Tk) (N : Nt) (ln wh h : Nat) (cs : Cs) (P : Pt) : Prop := LnC B n c T N ln ∧ gF c 20 9 = nI wh ∧ gF c 20 11 = nI h ∧ CsC c cs ∧ PtC c P
abbrev SF : List (Nat × Nat) := [(28, 6), (28, 7), (28, 8), (28, 9), (28, 10), (28, 11), (28, 12), (21, 0), (21, 1), (21, 2), (33, 7), (33, 8), (20, 11), (20, 12), (20, 13), (22, 1), (3, 6)]
abbrev SA : List Nat := [29, 30, 31, 32, 34, 35, 36, 37, 2, 23, 8]
abbrev SL : List Nat := [7]
/-- what may change; the memory only in the last pass -/
def ModS (wh : Nat) (c c' : vmD) : Prop := ModC SF SA SL c c' ∧ (¬ wh = 3 → gA c' 2 = gA c 2)
theorem ModS.trans {wh : Nat} {a b c : vmD} (h : ModS wh a b) (g : ModS wh b c) : ModS wh a c := ⟨h.1.trans g.1, fun w => (g.2 w).trans (h.2 w)⟩
theorem ModS.refl (wh : Nat) (c : vmD) : ModS wh c c := ⟨ModC.refl _ _ _ _, fun _ => rfl⟩
theorem ModS.sF {wh : Nat} {a b : vmD} (h : ModS wh a b) {o f : Nat} (hf : (o, f) ∈ SF) (v : Int32) : ModS wh a (sF b o f v) := ⟨h.1.sF hf v, h.2⟩
theorem ModC.toS {wh : Nat} {F : List (Nat × Nat)} {A L : List Nat} {c c' : vmD} (h : ModC F A L c c') (hF : ∀ x, x ∈ F → x ∈ SF) (hA : ∀ x, x ∈ A → x ∈ SA) (hL : ∀ x, x ∈ L → x ∈ SL) (h2 : ¬ 2 ∈ A) : ModS wh c c' := ⟨h.mono hF hA hL, fun _ => h.2.1 2 h2⟩
/-- a statement's outcome -/
def StOut (B : Nat → Nat) (n : Nat) (c : vmD) (T : List Tk) (ln wh : Nat) (f : Fl) (X : vmD → (vmD → Prop) → Prop) (F : Fo) (N' : Nt) (h' : Nat) (cs' : Cs) (P' : Pt) : Prop := ∃ c', (∀ Q : vmD → Prop, Q c' → X c Q) ∧ FltC c' (setF ln F f) ∧ (F = none → StC B n c' T N' ln wh h' cs' P') ∧ ModS wh c c'
theorem PtC.mod {F : List (Nat × Nat)} {A L : List Nat} {c c' : vmD} {P : Pt} (h : PtC c P) (M : ModC F A L c c') (h1 : ¬ (20, 12) ∈ F) (h2 : ¬ (20, 13) ∈ F) (h3 : ¬ 2 ∈ A) : PtC c' P := by
  unfold PtC at h ⊢
  rw [M.1 20 12 h1, M.1 20 13 h2, M.2.1 2 h3]
  exact h
theorem StC.mod {B : Nat → Nat} {n : Nat} {F : List (Nat × Nat)} {A L : List Nat} {c c' : vmD} {T : List Tk} {N : Nt} {ln wh h : Nat} {cs : Cs} {P : Pt} (hS : StC B n c T N ln wh h cs P) (M : ModC F A L c c') (hF : ¬ (24, 5) ∈ F ∧ ¬ (3, 6) ∈ F ∧ ¬ (24, 6) ∈ F ∧ ¬ (20, 9) ∈ F ∧ ¬ (20, 11) ∈ F ∧ ¬ (22, 1) ∈ F ∧ ¬ (20, 12) ∈ F ∧ ¬ (20, 13) ∈ F) (hA : ¬ 25 ∈ A ∧ ¬ 26 ∈ A ∧ ¬ 8 ∈ A ∧ ¬ 16 ∈ A ∧ ¬ 17 ∈ A ∧ ¬ 18 ∈ A ∧ ¬ 23 ∈ A ∧ ¬ 2 ∈ A) (hL : ¬ 27 ∈ L ∧ ¬ 7 ∈ L ∧ ¬ 4 ∈ L) : StC B n c' T N ln wh h cs P := by
  obtain ⟨a, b, e, g, i⟩ := hS
  obtain ⟨f1, f2, f3, f4, f5, f6, f7, f8⟩ := hF
  obtain ⟨a1, a2, a3, a4, a5, a6, a7, a8⟩ := hA
  refine ⟨a.mod M ⟨f1, f2, f3⟩ ⟨a1, a2, a3, a4, a5, a6⟩ hL, ?_, ?_, g.mod M f6 a7, i.mod M f7 f8 a8⟩
  · rw [M.1 20 9 f4]
    exact b
  · rw [M.1 20 11 f5]
    exact e
theorem modXF {wh : Nat} {c c' : vmD} (h : ModC XFF XA [] c c') : ModS wh c c' := h.toS (by decide) (by decide) (by decide) (by decide)
theorem modFF {wh : Nat} {c c' : vmD} (h : ModC FF [] [] c c') : ModS wh c c' := h.toS (by decide) (by decide) (by decide) (by decide)
theorem wh_e {c : vmD} {wh k : Nat} (h9 : gF c 20 9 = nI wh) (hw : wh < 4) (hk : k < 4) : decide (gF c 20 9 = nI k) = decide (wh = k) := by
  rw [h9]
  have e : nI wh = nI k ↔ wh = k := nI_eq (by omega) (by omega)
  by_cases z : wh = k
  · rw [decide_eq_true z, decide_eq_true (e.mpr z)]
  · rw [decide_eq_false z, decide_eq_false (fun w => z (e.mp w))]
theorem endF_none {T : List Tk} {t : Nat} (h : endF T t = none) : (tk T t).1 = 0 := by
  unfold endF at h
  by_cases z : (tk T t).1 = 0
  · exact z
  · rw [if_neg z] at h
    cases h
theorem rgF_none {v lo hi : Int32} {p : Nat} (h : rgF v lo hi p = none) : ¬ v < lo ∧ ¬ hi < v := by
  unfold rgF at h
  by_cases a : v < lo
  · rw [if_pos a] at h
    cases h
  · rw [if_neg a] at h
    by_cases b : hi < v
    · rw [if_pos b] at h
      cases h
    · exact ⟨a, b⟩
/-- ORG -/
def orgF (T : List Tk) (N : Nt) (here : Int32) (t : Nat) : Fo := thF (nmF T N here (t + 1) 0 65535) (endF T (xat T N here (t + 1)))
theorem orgC {B : Nat → Nat} {n : Nat} {c : vmD} {T : List Tk} {N : Nt} {ln wh h : Nat} {cs : Cs} {P : Pt} {f : Fl} (hS : StC B n c T N ln wh h cs P) (hF : FltC c f) (h0 : f.2.2 = 0) (hw4 : wh < 4) {t : Nat} (ht : t + 1 < T.length) (hw : wh = 1 ∨ orgF T N (nI h) t = none) : StOut B n c T ln wh f (fun c Q => Forger_origin (nI t) c Q) (if wh = 1 then orgF T N (nI h) t else none) N (xvl T N (nI h) (t + 1)).toNatClampNeg cs P := by
  obtain ⟨hLn, h9, h11, hC, hP⟩ := id hS
  obtain ⟨G, hG⟩ : ∃ G, G = (if decide (wh = 1) = true then nmF T N (nI h) (t + 1) 0 65535 else xS T N (nI h) (t + 1)) := ⟨_, rfl⟩
  have hR := nmbC (rep := decide (wh = 1)) (ps := 1) (lo := 0) (hi := 65535) hLn hF ht (Or.inl h0) h11 (wh_e h9 hw4 (by omega)).symm
  rw [← hG] at hR
  have eF : (if wh = 1 then orgF T N (nI h) t else none) = thF G (endF T (xat T N (nI h) (t + 1))) := by
    by_cases z : wh = 1
    · rw [if_pos z, hG, decide_eq_true z, if_pos rfl]
      rfl
    · have hn := hw.resolve_left z
      obtain ⟨a, b⟩ := thF_eq hn
      obtain ⟨a1, a2⟩ := xF_none (thF_eq a).1
      rw [if_neg z, hG, decide_eq_false z, if_neg Bool.false_ne_true, b]
      unfold xS
      rw [if_pos a2]
      rfl
  have hx : xok T N (nI h) (t + 1) = true ∨ ¬ G = none := by
    by_cases ok : xok T N (nI h) (t + 1) = true
    · exact Or.inl ok
    · refine Or.inr (fun w => ok ?_)
      rw [hG] at w
      split at w
      · exact (xF_none (thF_eq w).1).2
      · exact xS_none w
  obtain ⟨c1, E1, F1, V1, M1, e1⟩ := rdEnd hLn ht (Or.inl h0) hx hR
  rw [eF]
  by_cases z : xok T N (nI h) (t + 1) = true ∧ (tk T (xat T N (nI h) (t + 1))).1 = 0
  · refine ⟨sF c1 20 11 (xvl T N (nI h) (t + 1)), fun Q hQ => ?_, F1, fun hn => ?_, (modXF M1).sF (by decide) _⟩
    · show Forger_origin (nI t) c Q
      unfold Forger_origin
      rw [nI_p1]
      refine E1 Q (fun d Q => Expression_value d fun r_8 d_7 => bnd (sF d_7 20 11 r_8) fun d_9 => Q d_9) ?_
      rw [if_pos z, valC, V1 z.1]
      exact bnd_iff.mpr hQ
    · have hS1 := hS.mod M1 (by decide) (by decide) (by decide)
      have hr : ¬ xvl T N (nI h) (t + 1) < 0 := by
        by_cases w : wh = 1
        · rw [hG, decide_eq_true w, if_pos rfl] at hn
          exact (rgF_none (thF_eq (thF_eq hn).1).2).1
        · exact (rgF_none (thF_eq (thF_eq (hw.resolve_left w)).1).2).1
      obtain ⟨k, hk, e⟩ := nI_of hr
      obtain ⟨a, b, e', g, i⟩ := hS1
      have M2 : ModC [(20, 11)] [] [] c1 (sF c1 20 11 (xvl T N (nI h) (t + 1))) := (ModC.refl _ _ _ c1).sF (by decide) _
      refine ⟨a.mod M2 (by decide) (by decide) (by decide), ?_, ?_, g.mod M2 (by decide) (by decide), i.mod M2 (by decide) (by decide) (by decide)⟩
      · rw [M2.1 20 9 (by decide)]
        exact b
      · simp only [gA_sA, gA_sA_ne, gA_sF, gA_sG, gA_sL, gF_sA, gF_sF, gF_sF_ne, gF_sG, gF_sL, gG_sA, gG_sF, gG_sL, gG_sGe, gG_sG_ne, gL_sA, gL_sF, gL_sG, gL_sLe, gL_sL_ne, u1f_eq, u1f_ne, bnd_iff, not_false_eq_true, Nat.reduceEqDiff]
        rw [e, nI_clamp hk]
  · refine ⟨c1, fun Q hQ => ?_, F1, fun hn => absurd (e1 hn) z, modXF M1⟩
    show Forger_origin (nI t) c Q
    unfold Forger_origin
    rw [nI_p1]
    refine E1 Q (fun d Q => Expression_value d fun r_8 d_7 => bnd (sF d_7 20 11 r_8) fun d_9 => Q d_9) ?_
    rw [if_neg z]
    exact hQ
/-- names that can be told -/
def frB (N : Nt) (K : Nat) : Bool := decide (idN K = 0) && (decide (¬ fnd K N < N.length) && decide (N.length < 200))
def frF (wh : Nat) (T : List Tk) (N : Nt) (t : Nat) : Fo := if wh = 1 ∧ ¬ frB N (tk T t).2.2.2 = true then some (3, plaT T t) else none
theorem freeC {c : vmD} {N : Nt} (hN : FnC c N) (hC : CC c) {K : Nat} (hK : K < 38 ^ 12) (Q : Int32 → vmD → Prop) (hQ : Q (kb (frB N K)) c) : Names_isFree (lN K) c Q := by
  have p12 : (38 : Nat) ^ 12 < 2 ^ 63 := by decide
  unfold Names_isFree
  refine idOfC hC (by omega) _ ?_
  by_cases e : idN K = 0
  · rw [e, if_pos (show nI 0 = 0 from rfl)]
    refine findC hN hK _ ?_
    have h200 := hN.2.1
    by_cases g : fnd K N < N.length
    · rw [if_pos g, if_neg (nI_pos (by omega))]
      unfold frB at hQ
      rw [decide_eq_false (show ¬ ¬ fnd K N < N.length from fun q => q g), Bool.false_and, Bool.and_false] at hQ
      exact hQ
    · rw [if_neg g, if_pos (by decide), hN.1]
      unfold frB at hQ
      rw [decide_eq_true e, decide_eq_true g, Bool.true_and, Bool.true_and] at hQ
      by_cases l : N.length < 200
      · rw [if_pos (show nI N.length < 200 from nI_lt (b := 200) l (by omega))]
        rw [decide_eq_true l] at hQ
        exact hQ
      · rw [if_neg (show ¬ nI N.length < (200 : Int32) from nI_nlt (b := 200) (by omega) (by omega))]
        rw [decide_eq_false l] at hQ
        exact hQ
  · have hlt := idN_lt K
    rw [if_neg (show ¬ nI (idN K) = 0 from fun q => e ((nI_eq (b := 0) (by omega) (by omega)).mp q))]
    unfold frB at hQ
    rw [decide_eq_false e, Bool.false_and] at hQ
    exact hQ
theorem tellNC {c : vmD} {N : Nt} (hN : FnC c N) {K : Nat} (hK : K < 38 ^ 12) (hl : N.length < 200) (v : Int32) : ∃ c', (∀ Q : vmD → Prop, Q c' → Names_tell (lN K) v c Q) ∧ FnC c' (N ++ [(K, v)]) ∧ ModC [(3, 6)] [8] [7] c c' := by
  obtain ⟨h1, h2, h3⟩ := hN
  refine ⟨sF (sA (sL c 7 N.length (lN K)) 8 N.length v) 3 6 (nI (N.length + 1)), fun Q hQ => ?_, ?_, (((ModC.refl _ _ _ c).sL (by decide) _ _).sA (by decide) _ _).sF (by decide) _⟩
  · unfold Names_tell
    rw [h1, if_neg (nI_pos (by omega)), if_pos (show nI N.length < 200 from nI_lt (b := 200) hl (by omega))]
    refine ⟨nI_in (by omega) (by omega), bnd_iff.mpr ?_⟩
    rw [gF_sL, h1]
    refine ⟨nI_in (by omega) (by omega), bnd_iff.mpr (bnd_iff.mpr ?_)⟩
    rw [gF_sA, gF_sL, h1, nI_clamp (by omega), nI_p1]
    exact hQ
  · refine ⟨by simp only [gA_sA, gA_sA_ne, gA_sF, gA_sG, gA_sL, gF_sA, gF_sF, gF_sF_ne, gF_sG, gF_sL, gG_sA, gG_sF, gG_sL, gG_sGe, gG_sG_ne, gL_sA, gL_sF, gL_sG, gL_sLe, gL_sL_ne, u1f_eq, u1f_ne, bnd_iff, not_false_eq_true, Nat.reduceEqDiff, List.length_append, List.length_cons, List.length_nil], by rw [List.length_append]; show N.length + 1 ≤ 200; omega, fun i hi => ?_⟩
    rw [List.length_append] at hi
    have hi : i < N.length + 1 := hi
    simp only [gA_sA, gA_sA_ne, gA_sF, gA_sG, gA_sL, gF_sA, gF_sF, gF_sF_ne, gF_sG, gF_sL, gG_sA, gG_sF, gG_sL, gG_sGe, gG_sG_ne, gL_sA, gL_sF, gL_sG, gL_sLe, gL_sL_ne, u1f_eq, u1f_ne, bnd_iff, not_false_eq_true, Nat.reduceEqDiff]
    by_cases z : i < N.length
    · rw [u1f_ne _ _ (by omega), u1f_ne _ _ (by omega), List.getElem_append_left z]
      exact h3 i z
    · have e : i = N.length := by omega
      subst e
      rw [u1f_eq, u1f_eq, List.getElem_append_right (Nat.le_refl _)]
      simp only [Nat.sub_self, List.getElem_cons_zero]
      exact ⟨trivial, trivial, hK⟩
theorem nm_K {B : Nat → Nat} {n : Nat} {T : List Tk} (hL : Lx B n T) {t : Nat} (ht : t < T.length) (hk : (tk T t).1 = 2) : (tk T t).2.2.2 < 38 ^ 12 := ((hL.2.2 t ht).2.2.2.2.2.2.2.2 hk).1.2.1
theorem canC {B : Nat → Nat} {n : Nat} {c : vmD} {T : List Tk} {N : Nt} {ln wh : Nat} {f : Fl} (hLn : LnC B n c T N ln) (hF : FltC c f) (h9 : gF c 20 9 = nI wh) (hw4 : wh < 4) {t : Nat} (ht : t < T.length) (hk : (tk T t).1 = 2) (hok : OKf f (plaT T t)) : ∃ c', (∀ Q : Int32 → vmD → Prop, Q (kb (decide (frF wh T N t = none))) c' → Forger_canTell (nI t) c Q) ∧ FltC c' (setF ln (frF wh T N t) f) ∧ ModC FF [] [] c c' := by
  have hL := hLn.2.1
  have hTl := hL.2.1
  have c26 : ∀ Q : Int32 → vmD → Prop, Q 1 c → Forger_canTell_26 (nI t) c Q := by
    intro Q hQ
    unfold Forger_canTell_26 Forger_canTell_31
    rw [if_neg (by decide)]
    exact ⟨Or.inr rfl, hQ⟩
  have w1 : gF c 20 9 = 1 ↔ wh = 1 := by
    rw [h9]
    exact nI_eq (b := 1) (by omega) (by omega)
  by_cases z : wh = 1
  · have start : ∀ Q : Int32 → vmD → Prop, (if kb (frB N (tk T t).2.2.2) = 0 then Forger_canTell_31 (nI t) 0 c Q else Forger_canTell_26 (nI t) c Q) → Forger_canTell (nI t) c Q := by
      intro Q hQ
      unfold Forger_canTell
      rw [if_pos (w1.mpr z), valueC hLn.2.2.1 (by omega)]
      exact freeC hLn.2.2.2.1 hLn.2.2.2.2.1 (nm_K hL ht hk) _ hQ
    by_cases g : frB N (tk T t).2.2.2 = true
    · have e : frF wh T N t = none := if_neg (fun q => q.2 g)
      refine ⟨c, fun Q hQ => start Q ?_, by rw [e, setF_none]; exact hF, ModC.refl _ _ _ _⟩
      rw [g, if_neg (by decide)]
      rw [e, decide_eq_true rfl] at hQ
      exact c26 Q hQ
    · have e : frF wh T N t = some (3, plaT T t) := if_pos ⟨z, g⟩
      obtain ⟨c1, E1, F1, M1⟩ := badC hLn hF (t := t) (k := 3) ht (by omega) hok
      refine ⟨c1, fun Q hQ => start Q ?_, by rw [e]; exact F1, M1⟩
      rw [Bool.eq_false_iff.mpr g, if_pos (by decide)]
      unfold Forger_canTell_31
      rw [if_pos rfl]
      refine E1 _ ⟨Or.inl rfl, ?_⟩
      rw [e, decide_eq_false (fun q => by cases q)] at hQ
      exact hQ
  · have e : frF wh T N t = none := if_neg (fun q => z q.1)
    refine ⟨c, fun Q hQ => ?_, by rw [e, setF_none]; exact hF, ModC.refl _ _ _ _⟩
    unfold Forger_canTell
    rw [if_neg (fun w => z (w1.mp w))]
    rw [e, decide_eq_true rfl] at hQ
    exact c26 Q hQ
theorem LnC.tell {B : Nat → Nat} {n : Nat} {c c' : vmD} {T : List Tk} {N N' : Nt} {ln : Nat} (h : LnC B n c T N ln) (M : ModC [(3, 6)] [8] [7] c c') (hN : FnC c' N') : LnC B n c' T N' ln := by
  obtain ⟨h0, h1, h2, h3, h4, h5, h6⟩ := h
  refine ⟨h0, h1, h2.mod M (by decide) (by decide) (by decide) (by decide), hN, h4.mod M (by decide) (by decide) (by decide) (by decide), ?_, h6⟩
  rw [M.1 24 6 (by decide)]
  exact h5
/-- what is told -/
def tlN (wh : Nat) (T : List Tk) (N : Nt) (t : Nat) (v : Int32) : Nt := if wh = 1 then N ++ [((tk T t).2.2.2, v)] else N
theorem tellC {B : Nat → Nat} {n : Nat} {c : vmD} {T : List Tk} {N : Nt} {ln wh h : Nat} {cs : Cs} {P : Pt} (hS : StC B n c T N ln wh h cs P) (hw4 : wh < 4) {t : Nat} (ht : t < T.length) (hk : (tk T t).1 = 2) (hfr : frF wh T N t = none) (v : Int32) : ∃ c', (∀ Q : vmD → Prop, Q c' → Forger_tell (nI t) v c Q) ∧ StC B n c' T (tlN wh T N t v) ln wh h cs P ∧ ModC [(3, 6)] [8] [7] c c' := by
  obtain ⟨hLn, h9, h11, hC, hP⟩ := id hS
  have hL := hLn.2.1
  have hTl := hL.2.1
  have w1 : gF c 20 9 = 1 ↔ wh = 1 := by
    rw [h9]
    exact nI_eq (b := 1) (by omega) (by omega)
  by_cases z : wh = 1
  · have hl : N.length < 200 := by
      unfold frF at hfr
      by_cases g : frB N (tk T t).2.2.2 = true
      · unfold frB at g
        rw [Bool.and_eq_true, Bool.and_eq_true, decide_eq_true_eq, decide_eq_true_eq, decide_eq_true_eq] at g
        exact g.2.2
      · rw [if_pos ⟨z, g⟩] at hfr
        cases hfr
    obtain ⟨c1, E1, N1, M1⟩ := tellNC hLn.2.2.2.1 (nm_K hL ht hk) hl v
    refine ⟨c1, fun Q hQ => ?_, ?_, M1⟩
    · unfold Forger_tell
      rw [if_pos (w1.mpr z), valueC hLn.2.2.1 (by omega)]
      exact E1 _ hQ
    · have e : tlN wh T N t v = N ++ [((tk T t).2.2.2, v)] := if_pos z
      rw [e]
      refine ⟨hLn.tell M1 N1, ?_, ?_, hC.mod M1 (by decide) (by decide), hP.mod M1 (by decide) (by decide) (by decide)⟩
      · rw [M1.1 20 9 (by decide)]
        exact h9
      · rw [M1.1 20 11 (by decide)]
        exact h11
  · have e : tlN wh T N t v = N := if_neg z
    rw [e]
    refine ⟨c, fun Q hQ => ?_, hS, ModC.refl _ _ _ _⟩
    unfold Forger_tell
    rw [if_neg (fun w => z (w1.mp w))]
    exact hQ
