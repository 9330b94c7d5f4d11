/-! Statements: the class's EQU, IF, ELSE, ENDIF, DS -/
def goF (T : List Tk) (t h s : Nat) : Fo := if 65536 < h + s then some (8, plaT T t) else none
abbrev GF : List (Nat × Nat) := [(21, 0), (21, 1), (21, 2), (20, 11)]
theorem goC {B : Nat → Nat} {n : Nat} {c : vmD} {T : List Tk} {N : Nt} {ln h : Nat} {f : Fl} (hLn : LnC B n c T N ln) (hF : FltC c f) (h11 : gF c 20 11 = nI h) {t s : Nat} (ht : t < T.length) (hs : h + s < 2 ^ 31) (hok : goF T t h s = none ∨ OKf f (plaT T t)) : ∃ c', (∀ Q : vmD → Prop, Q c' → Forger_goOn (nI t) (nI s) c Q) ∧ FltC c' (setF ln (goF T t h s) f) ∧ gF c' 20 11 = nI (h + s) ∧ ModC GF [] [] c c' := by
  have e22 : ∀ (d : vmD) (Q : vmD → Prop), gF d 20 11 = nI h → Q (sF d 20 11 (nI (h + s))) → Forger_goOn_22 (nI s) d Q := by
    intro d Q hd hQ
    unfold Forger_goOn_22
    rw [hd, nI_add]
    exact bnd_iff.mpr hQ
  by_cases z : 65536 < h + s
  · have e : goF T t h s = some (8, plaT T t) := if_pos z
    rw [e] at hok ⊢
    have hok2 := hok.resolve_left (fun q => by cases q)
    obtain ⟨c1, E1, F1, M1⟩ := badC hLn hF (k := 8) ht (by omega) hok2
    have g11 : gF c1 20 11 = nI h := by
      rw [M1.1 20 11 (by decide)]
      exact h11
    refine ⟨sF c1 20 11 (nI (h + s)), fun Q hQ => ?_, F1, by rw [gF_sF, u1f_eq], (M1.mono (by decide) (by decide) (by decide)).sF (by decide) _⟩
    unfold Forger_goOn
    rw [h11, nI_add, if_pos (show (65536 : Int32) < nI (h + s) from nI_lt (a := 65536) z hs)]
    exact E1 _ (e22 c1 Q g11 hQ)
  · have e : goF T t h s = none := if_neg z
    rw [e, setF_none]
    refine ⟨sF c 20 11 (nI (h + s)), fun Q hQ => ?_, hF, by rw [gF_sF, u1f_eq], (ModC.refl _ _ _ c).sF (by decide) _⟩
    unfold Forger_goOn
    rw [h11, nI_add, if_neg (show ¬ (65536 : Int32) < nI (h + s) from nI_nlt (a := 65536) (by omega) (by omega))]
    exact e22 c Q h11 hQ
theorem StC.go {B : Nat → Nat} {n : Nat} {c c' : vmD} {T : List Tk} {N : Nt} {ln wh h h' : Nat} {cs : Cs} {P : Pt} (hS : StC B n c T N ln wh h cs P) (M : ModC GF [] [] c c') (h11 : gF c' 20 11 = nI h') : StC B n c' T N ln wh h' cs P := by
  obtain ⟨a, b, e, g, i⟩ := hS
  refine ⟨a.mod M (by decide) (by decide) (by decide), ?_, h11, g.mod M (by decide) (by decide), i.mod M (by decide) (by decide) (by decide)⟩
  rw [M.1 20 9 (by decide)]
  exact b
/-- EQU -/
def eqF (T : List Tk) (N : Nt) (here : Int32) (t : Nat) : Fo := thF (xF T N here (t + 2)) (endF T (xat T N here (t + 2)))
theorem frF_in {B : Nat → Nat} {n : Nat} {T : List Tk} (hL : Lx B n T) {wh t b : Nat} {N : Nt} (hb : plaT T t < b) : InF (frF wh T N t) (plaT T t) b := by
  unfold frF
  split
  · exact InF.one (by omega) (by omega) (Nat.le_refl _) hb
  · exact InF.none _ _
theorem equC {B : Nat → Nat} {n : Nat} {c : vmD} {T : List Tk} {N : Nt} {ln wh h : Nat} {cs : Cs} {P : Pt} {f : Fl} (hS : StC B n c T N ln wh h cs P) (hF : FltC c f) (h0 : f.2.2 = 0) (hw4 : wh < 4) {t : Nat} (ht : t + 2 < T.length) (hk : (tk T t).1 = 2) (hw : wh = 1 ∨ eqF T N (nI h) t = none) : StOut B n c T ln wh f (fun c Q => Forger_equate (nI t) c Q) (if wh = 1 then thF (frF wh T N t) (eqF T N (nI h) t) else none) (tlN wh T N t (xvl T N (nI h) (t + 2))) h cs P := by
  obtain ⟨hLn, h9, h11, hC, hP⟩ := id hS
  have hL := hLn.2.1
  obtain ⟨c0, E0, F0, M0⟩ := canC hLn hF h9 hw4 (t := t) (by omega) hk (Or.inl h0)
  by_cases g : frF wh T N t = none
  · rw [g, setF_none] at F0
    have hS0 : StC B n c0 T N ln wh h cs P := hS.mod M0 (by decide) (by decide) (by decide)
    obtain ⟨hLn0, h90, h110, hC0, hP0⟩ := id hS0
    obtain ⟨G, hG⟩ : ∃ G, G = (if decide (wh = 1) = true then xF T N (nI h) (t + 2) else xS T N (nI h) (t + 2)) := ⟨_, rfl⟩
    have hR := expC (nI h) (decide (wh = 1)) hLn0 F0 ht (Or.inl h0)
    rw [← hG] at hR
    have eF : (if wh = 1 then thF (frF wh T N t) (eqF T N (nI h) t) else none) = thF G (endF T (xat T N (nI h) (t + 2))) := by
      by_cases z : wh = 1
      · rw [if_pos z, hG, decide_eq_true z, if_pos rfl, g]
        rfl
      · have hn := hw.resolve_left z
        obtain ⟨a, b⟩ := thF_eq hn
        obtain ⟨a1, a2⟩ := xF_none a
        rw [if_neg z, hG, decide_eq_false z, if_neg Bool.false_ne_true, b]
        unfold xS
        rw [if_pos a2]
        rfl
    have hx : xok T N (nI h) (t + 2) = true ∨ ¬ G = none := by
      by_cases ok : xok T N (nI h) (t + 2) = true
      · exact Or.inl ok
      · refine Or.inr (fun w => ok ?_)
        rw [hG] at w
        split at w
        · exact (xF_none w).2
        · exact xS_none w
    obtain ⟨c1, E1, F1, V1, M1, e1⟩ := rdEnd hLn0 ht (Or.inl h0) hx hR
    rw [eF]
    have start : ∀ Q : vmD → Prop, (if xok T N (nI h) (t + 2) = true ∧ (tk T (xat T N (nI h) (t + 2))).1 = 0 then (Expression_value c1 fun r_12 d_11 => Forger_tell (nI t) r_12 d_11 fun d_13 => Q d_13) else Q c1) → Forger_equate (nI t) c Q := by
      intro Q hQ
      unfold Forger_equate
      refine E0 _ ?_
      rw [g, decide_eq_true rfl, if_neg (by decide)]
      have e33 : ∀ b : Bool, b = decide (wh = 1) → Forger_equate_33 (nI t) (kb b) (nI h) (nI t + 2) c0 Q := by
        intro b hb
        subst hb
        unfold Forger_equate_33
        rw [nI_p2]
        exact E1 Q (fun d Q => Expression_value d fun r_12 d_11 => Forger_tell (nI t) r_12 d_11 fun d_13 => Q d_13) hQ
      rw [h110]
      have w1 : gF c0 20 9 = 1 ↔ wh = 1 := by
        rw [h90]
        exact nI_eq (b := 1) (by omega) (by omega)
      by_cases z : wh = 1
      · rw [if_pos (w1.mpr z)]
        exact e33 true (by rw [decide_eq_true z])
      · rw [if_neg (fun q => z (w1.mp q))]
        exact e33 false (by rw [decide_eq_false z])
    by_cases z : xok T N (nI h) (t + 2) = true ∧ (tk T (xat T N (nI h) (t + 2))).1 = 0
    · have hS1 : StC B n c1 T N ln wh h cs P := hS0.mod M1 (by decide) (by decide) (by decide)
      obtain ⟨c2, E2, S2, M2⟩ := tellC hS1 hw4 (t := t) (by omega) hk g (xvl T N (nI h) (t + 2))
      refine ⟨c2, fun Q hQ => start Q ?_, F1.mod M2 (by decide) (by decide) (by decide), fun _ => S2, ((modFF M0).trans (modXF M1)).trans (M2.toS (by decide) (by decide) (by decide) (by decide))⟩
      rw [if_pos z, valC, V1 z.1]
      exact E2 _ hQ
    · refine ⟨c1, fun Q hQ => start Q ?_, F1, fun hn => absurd (e1 hn) z, (modFF M0).trans (modXF M1)⟩
      rw [if_neg z]
      exact hQ
  · have z : wh = 1 := by
      refine Decidable.byContradiction (fun q => g ?_)
      exact if_neg (fun w => q w.1)
    obtain ⟨q, hq⟩ : ∃ q, frF wh T N t = some q := by
      cases e : frF wh T N t with
      | none => exact absurd e g
      | some q => exact ⟨q, rfl⟩
    refine ⟨c0, fun Q hQ => ?_, ?_, fun hn => ?_, modFF M0⟩
    · show Forger_equate (nI t) c Q
      unfold Forger_equate
      refine E0 _ ?_
      rw [decide_eq_false g, if_pos (by decide)]
      exact hQ
    · rw [if_pos z, hq, thF_some, ← hq]
      exact F0
    · rw [if_pos z, hq, thF_some] at hn
      cases hn
/-- IF, ELSE, ENDIF -/
def cdF (T : List Tk) (N : Nt) (here : Int32) (t w : Nat) (cs : Cs) : Fo := if alw w cs = true then (if w = 104 then thF (xF T N here (t + 1)) (endF T (xat T N here (t + 1))) else endF T (t + 1)) else some (7, plaT T t)
theorem pas_y {w : Nat} (hw : ¬ w = 104) (y y' : Bool) (cs : Cs) : pas w y cs = pas w y' cs := by
  unfold pas
  rw [if_neg hw, if_neg hw]
theorem cndC {B : Nat → Nat} {n : Nat} {c : vmD} {T : List Tk} {N : Nt} {ln wh h : Nat} {cs : Cs} {P : Pt} {f : Fl} (hS : StC B n c T N ln wh h cs P) (hF : FltC c f) (h0 : f.2.2 = 0) (hw4 : wh < 4) {t w : Nat} (hwd : w = 104 ∨ w = 105 ∨ w = 106) (ht : t + 1 < T.length) (hw : wh = 1 ∨ cdF T N (nI h) t w cs = none) : StOut B n c T ln wh f (fun c Q => Forger_condition (nI t) (nI w) c Q) (if wh = 1 then cdF T N (nI h) t w cs else none) N h (pas w (decide (¬ xvl T N (nI h) (t + 1) = 0)) cs) P := by
  obtain ⟨hLn, h9, h11, hC, hP⟩ := id hS
  have hL := hLn.2.1
  have hTl := hL.2.1
  have hall := alwC hC hwd
  by_cases ha : alw w cs = true
  · rw [ha] at hall
    -- behind the line's end
    have last : ∀ (d : vmD) (y : Bool), StC B n d T N ln wh h cs P → (w = 104 → y = decide (¬ xvl T N (nI h) (t + 1) = 0)) → y = decide (¬ gA d 31 0 = 0) → ∃ d', (∀ Q : vmD → Prop, Q d' → Expression_value d fun r_15 d_14 => if r_15 = 0 then (Forger_condition_90 0 (nI w) d_14 Q) else (Forger_condition_90 1 (nI w) d_14 Q)) ∧ StC B n d' T N ln wh h (pas w (decide (¬ xvl T N (nI h) (t + 1) = 0)) cs) P ∧ ModC [(22, 1)] [23] [] d d' := by
      intro d y hd hy hv
      obtain ⟨a1, a2, a3, a4, a5⟩ := hd
      obtain ⟨d', E', C', M'⟩ := pasC a4 hwd y
      have C2 := C' ha
      have ep : pas w y cs = pas w (decide (¬ xvl T N (nI h) (t + 1) = 0)) cs := by
        by_cases z : w = 104
        · rw [hy z]
        · exact pas_y z _ _ _
      rw [ep] at C2
      refine ⟨d', fun Q hQ => ?_, ⟨a1.mod M' (by decide) (by decide) (by decide), ?_, ?_, C2, a5.mod M' (by decide) (by decide) (by decide)⟩, M'⟩
      · rw [valC]
        by_cases z : gA d 31 0 = 0
        · rw [if_pos z]
          rw [decide_eq_false (fun q => q z)] at hv
          subst hv
          unfold Forger_condition_90
          exact E' _ hQ
        · rw [if_neg z]
          rw [decide_eq_true z] at hv
          subst hv
          unfold Forger_condition_90
          exact E' _ hQ
      · rw [M'.1 20 9 (by decide)]
        exact a2
      · rw [M'.1 20 11 (by decide)]
        exact a3
    have eCd : cdF T N (nI h) t w cs = (if w = 104 then thF (xF T N (nI h) (t + 1)) (endF T (xat T N (nI h) (t + 1))) else endF T (t + 1)) := if_pos ha
    by_cases w104 : w = 104
    · rw [if_pos w104] at eCd
      obtain ⟨G, hG⟩ : ∃ G, G = (if decide (wh = 1) = true then xF T N (nI h) (t + 1) else xS T N (nI h) (t + 1)) := ⟨_, rfl⟩
      have hR := expC (nI h) (decide (wh = 1)) hLn hF ht (Or.inl h0)
      rw [← hG] at hR
      have eF : (if wh = 1 then cdF T N (nI h) t w cs else none) = thF G (endF T (xat T N (nI h) (t + 1))) := by
        by_cases z : wh = 1
        · rw [if_pos z, hG, decide_eq_true z, if_pos rfl, eCd]
        · have hn := hw.resolve_left z
          rw [eCd] at hn
          obtain ⟨a, b⟩ := thF_eq hn
          obtain ⟨a1, a2⟩ := xF_none a
          rw [if_neg z, hG, decide_eq_false z, if_neg Bool.false_ne_true, b]
          unfold xS
          rw [if_pos a2]
          rfl
      have hx : xok T N (nI h) (t + 1) = true ∨ ¬ G = none := by
        by_cases ok : xok T N (nI h) (t + 1) = true
        · exact Or.inl ok
        · refine Or.inr (fun w => ok ?_)
          rw [hG] at w
          split at w
          · exact (xF_none w).2
          · exact xS_none w
      obtain ⟨c1, E1, F1, V1, M1, e1⟩ := rdEnd hLn ht (Or.inl h0) hx hR
      rw [eF]
      have start : ∀ Q : vmD → Prop, (if xok T N (nI h) (t + 1) = true ∧ (tk T (xat T N (nI h) (t + 1))).1 = 0 then (Expression_value c1 fun r_15 d_14 => if r_15 = 0 then (Forger_condition_90 0 (nI w) d_14 Q) else (Forger_condition_90 1 (nI w) d_14 Q)) else Q c1) → Forger_condition (nI t) (nI w) c Q := by
        intro Q hQ
        unfold Forger_condition
        rw [hall, if_neg (by decide)]
        refine bnd_iff.mpr ?_
        rw [if_pos (show nI w = 104 by rw [w104]; rfl), nI_p1, h11]
        have e54 : ∀ b : Bool, b = decide (wh = 1) → Forger_condition_54 (nI w) (kb b) (nI h) (nI (t + 1)) c Q := by
          intro b hb
          subst hb
          unfold Forger_condition_54 Forger_condition_58
          exact E1 Q (fun d Q => Expression_value d fun r_15 d_14 => if r_15 = 0 then (Forger_condition_90 0 (nI w) d_14 Q) else (Forger_condition_90 1 (nI w) d_14 Q)) hQ
        have w1 : gF c 20 9 = 1 ↔ wh = 1 := by
          rw [h9]
          exact nI_eq (b := 1) (by omega) (by omega)
        by_cases z : wh = 1
        · rw [if_pos (w1.mpr z)]
          exact e54 true (by rw [decide_eq_true z])
        · rw [if_neg (fun q => z (w1.mp q))]
          exact e54 false (by rw [decide_eq_false z])
      by_cases z : xok T N (nI h) (t + 1) = true ∧ (tk T (xat T N (nI h) (t + 1))).1 = 0
      · have hS1 : StC B n c1 T N ln wh h cs P := hS.mod M1 (by decide) (by decide) (by decide)
        obtain ⟨c2, E2, S2, M2⟩ := last c1 _ hS1 (fun _ => rfl) (by rw [V1 z.1])
        refine ⟨c2, fun Q hQ => start Q ?_, F1.mod M2 (by decide) (by decide) (by decide), fun _ => S2, (modXF M1).trans (M2.toS (by decide) (by decide) (by decide) (by decide))⟩
        rw [if_pos z]
        exact E2 _ hQ
      · refine ⟨c1, fun Q hQ => start Q ?_, F1, fun hn => absurd (e1 hn) z, modXF M1⟩
        rw [if_neg z]
        exact hQ
    · rw [if_neg w104] at eCd
      have n104 : ¬ nI w = 104 := fun q => w104 ((nI_eq (b := 104) (by omega) (by omega)).mp q)
      obtain ⟨c1, E1, F1, M1⟩ := endC hLn hF ht (Or.inl h0)
      have eF : (if wh = 1 then cdF T N (nI h) t w cs else none) = endF T (t + 1) := by
        by_cases z : wh = 1
        · rw [if_pos z, eCd]
        · have hn := hw.resolve_left z
          rw [eCd] at hn
          rw [if_neg z, hn]
      rw [eF]
      have start : ∀ Q : vmD → Prop, (if (tk T (t + 1)).1 = 0 then (Expression_value c1 fun r_15 d_14 => if r_15 = 0 then (Forger_condition_90 0 (nI w) d_14 Q) else (Forger_condition_90 1 (nI w) d_14 Q)) else Q c1) → Forger_condition (nI t) (nI w) c Q := by
        intro Q hQ
        unfold Forger_condition
        rw [hall, if_neg (by decide)]
        refine bnd_iff.mpr ?_
        rw [if_neg n104, nI_p1]
        unfold Forger_condition_58
        rw [if_neg (nI_pos (by omega))]
        refine E1 _ ?_
        by_cases z : (tk T (t + 1)).1 = 0
        · rw [if_pos z] at hQ
          rw [decide_eq_true z, if_neg (by decide)]
          exact hQ
        · rw [if_neg z] at hQ
          rw [decide_eq_false z, if_pos (by decide)]
          exact hQ
      by_cases z : (tk T (t + 1)).1 = 0
      · have hS1 : StC B n c1 T N ln wh h cs P := hS.mod M1 (by decide) (by decide) (by decide)
        obtain ⟨c2, E2, S2, M2⟩ := last c1 (decide (¬ gA c1 31 0 = 0)) hS1 (fun q => absurd q w104) rfl
        refine ⟨c2, fun Q hQ => start Q ?_, F1.mod M2 (by decide) (by decide) (by decide), fun _ => S2, (modFF M1).trans (M2.toS (by decide) (by decide) (by decide) (by decide))⟩
        rw [if_pos z]
        exact E2 _ hQ
      · refine ⟨c1, fun Q hQ => start Q ?_, F1, fun hn => absurd (endF_none hn) z, modFF M1⟩
        rw [if_neg z]
        exact hQ
  · have eCd : cdF T N (nI h) t w cs = some (7, plaT T t) := if_neg ha
    have z : wh = 1 := by
      rcases hw with z | z
      · exact z
      · rw [eCd] at z
        cases z
    obtain ⟨c1, E1, F1, M1⟩ := badC hLn hF (k := 7) (t := t) (by omega) (by omega) (Or.inl h0)
    refine ⟨c1, fun Q hQ => ?_, by rw [if_pos z, eCd]; exact F1, fun hn => ?_, modFF M1⟩
    · show Forger_condition (nI t) (nI w) c Q
      unfold Forger_condition
      rw [hall, Bool.eq_false_iff.mpr ha, if_pos (show kb false = 0 from rfl)]
      exact E1 _ hQ
    · rw [if_pos z, eCd] at hn
      cases hn
