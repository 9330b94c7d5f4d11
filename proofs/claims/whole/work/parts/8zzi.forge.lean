/-! forge, the class's side -/
abbrev XF2 : List (Nat × Nat) := [(28, 6), (28, 7), (28, 8), (28, 9), (28, 10), (28, 11), (28, 12), (21, 0), (21, 1), (21, 2), (33, 7), (33, 8), (20, 11), (20, 12), (20, 13), (22, 1), (3, 6), (20, 10), (24, 5), (24, 6), (20, 9)]
def ModX (wh : Nat) (c c' : vmD) : Prop := ModC XF2 VA VL c c' ∧ (¬ wh = 3 → gA c' 2 = gA c 2)
/-- what a forge begins a pass with -/
def PsC (B : Nat → Nat) (n : Nat) (c : vmD) (N : Nt) (D : Nat → Int32) (f0 : Fl) : Prop := SrcOk B n ∧ SrcC B n c ∧ FnC c N ∧ CC c ∧ (∀ a, a < 65536 → D a = gA c 2 a &&& 255) ∧ FltC c f0 ∧ f0.2.2 = 0
theorem onePass {B : Nat → Nat} {n wh : Nat} {c : vmD} {N : Nt} {D : Nat → Int32} {f0 : Fl} (hw4 : wh < 4) (h : PsC B n c N D f0) (hw : wh = 1 ∨ Good B n N (n + 2) 0 0 0 []) : ∃ c', (∀ Q : vmD → Prop, Q c' → Forger_pass (nI wh) c Q) ∧ ModX wh c c' ∧ (∀ R : Rs, R = run B n wh (decide (wh = 3)) (n + 2) 0 0 N 0 [] (D, 0, 0) → (R.1 = none → FltC c' f0 ∧ BtC B n c' R.2.2.1 wh R.2.2.2.1 [] R.2.2.2.2 ∧ gF c' 20 10 = nI R.2.1) ∧ (∀ v, R.1 = some v → FltC c' v ∧ 0 < v.2.2)) := by
  obtain ⟨hO, hSr, hN, hCC, hD, hF, h0⟩ := h
  obtain ⟨c1, hc1⟩ : ∃ c1, c1 = sF (sF (sF (sF (sF (sF c 20 9 (nI wh)) 20 10 0) 20 11 0) 20 12 0) 20 13 0) 22 1 0 := ⟨_, rfl⟩
  have M1 : ModC [(20, 9), (20, 10), (20, 11), (20, 12), (20, 13), (22, 1)] [] [] c c1 := by
    rw [hc1]
    exact ((((((ModC.refl _ _ _ c).sF (by decide) _).sF (by decide) _).sF (by decide) _).sF (by decide) _).sF (by decide) _).sF (by decide) _
  have hB : BtC B n c1 N wh 0 [] (D, 0, 0) := by
    refine ⟨hO, hSr.mod M1 (by decide) (by decide), hN.mod M1 (by decide) (by decide) (by decide), hCC.mod M1 (by decide) (by decide) (by decide) (by decide), ?_, ?_, ⟨?_, Nat.zero_le _, True.intro⟩, ?_, ?_, ?_⟩
    · rw [hc1]
      simp only [gA_sA, gA_sA_ne, gA_sF, gA_sG, gA_sL, gF_sA, gF_sF, gF_sF_ne, gF_sG, gF_sL, gG_sA, gG_sF, gG_sL, gG_sGe, gG_sG_ne, gL_sA, gL_sF, gL_sG, gL_sLe, gL_sL_ne, u1f_eq, u1f_ne, bnd_iff, not_false_eq_true, Nat.reduceEqDiff]
    · rw [hc1]
      simp only [gA_sA, gA_sA_ne, gA_sF, gA_sG, gA_sL, gF_sA, gF_sF, gF_sF_ne, gF_sG, gF_sL, gG_sA, gG_sF, gG_sL, gG_sGe, gG_sG_ne, gL_sA, gL_sF, gL_sG, gL_sLe, gL_sL_ne, u1f_eq, u1f_ne, bnd_iff, not_false_eq_true, Nat.reduceEqDiff]
      rfl
    · rw [hc1]
      simp only [gA_sA, gA_sA_ne, gA_sF, gA_sG, gA_sL, gF_sA, gF_sF, gF_sF_ne, gF_sG, gF_sL, gG_sA, gG_sF, gG_sL, gG_sGe, gG_sG_ne, gL_sA, gL_sF, gL_sG, gL_sLe, gL_sL_ne, u1f_eq, u1f_ne, bnd_iff, not_false_eq_true, Nat.reduceEqDiff]
      rfl
    · intro a ha
      rw [M1.2.1 2 (by decide)]
      exact hD a ha
    · rw [hc1]
      simp only [gA_sA, gA_sA_ne, gA_sF, gA_sG, gA_sL, gF_sA, gF_sF, gF_sF_ne, gF_sG, gF_sL, gG_sA, gG_sF, gG_sL, gG_sGe, gG_sG_ne, gL_sA, gL_sF, gL_sG, gL_sLe, gL_sL_ne, u1f_eq, u1f_ne, bnd_iff, not_false_eq_true, Nat.reduceEqDiff]
      rfl
    · rw [hc1]
      simp only [gA_sA, gA_sA_ne, gA_sF, gA_sG, gA_sL, gF_sA, gF_sF, gF_sF_ne, gF_sG, gF_sL, gG_sA, gG_sF, gG_sL, gG_sGe, gG_sG_ne, gL_sA, gL_sF, gL_sG, gL_sLe, gL_sL_ne, u1f_eq, u1f_ne, bnd_iff, not_false_eq_true, Nat.reduceEqDiff]
      rfl
  have h10 : gF c1 20 10 = nI 0 := by
    rw [hc1]
    simp only [gA_sA, gA_sA_ne, gA_sF, gA_sG, gA_sL, gF_sA, gF_sF, gF_sF_ne, gF_sG, gF_sL, gG_sA, gG_sF, gG_sL, gG_sGe, gG_sG_ne, gL_sA, gL_sF, gL_sG, gL_sLe, gL_sL_ne, u1f_eq, u1f_ne, bnd_iff, not_false_eq_true, Nat.reduceEqDiff]
    rfl
  obtain ⟨c2, E2, M2, R2⟩ := passC hw4 (n + 2) 0 0 N 0 [] (D, 0, 0) c1 f0 (by omega) (by omega) hB (hF.mod M1 (by decide) (by decide) (by decide)) h0 h10 (by omega) (by omega) (by show 0 ≤ 0 * 65536; omega) (Or.inl rfl) hw
  refine ⟨c2, fun Q hQ => ?_, ⟨(M1.mono (by decide) (by decide) (by decide)).trans (M2.1.mono (by decide) (by decide) (by decide)), fun w => (M2.2 w).trans (M1.2.1 2 (by decide))⟩, R2⟩
  unfold Forger_pass Conditions_begin
  refine bnd_iff.mpr (bnd_iff.mpr (bnd_iff.mpr (bnd_iff.mpr (bnd_iff.mpr (bnd_iff.mpr ?_)))))
  rw [← hc1]
  exact E2 Q hQ
theorem PsC.next {B : Nat → Nat} {n wh : Nat} {c c' : vmD} {N N' : Nt} {D : Nat → Int32} {f0 : Fl} {h : Nat} {cs : Cs} {P : Pt} (hP : PsC B n c N D f0) (hw : ¬ wh = 3) (M : ModX wh c c') (hF : FltC c' f0) (hB : BtC B n c' N' wh h cs P) : PsC B n c' N' D f0 := by
  obtain ⟨hO, hSr, hN, hCC, hD, -, h0⟩ := hP
  refine ⟨hO, hB.2.1, hB.2.2.1, hB.2.2.2.1, fun a ha => ?_, hF, h0⟩
  rw [M.2 hw]
  exact hD a ha
theorem run_P {B : Nat → Nat} {n wh : Nat} : ∀ (f p ln : Nat) (N : Nt) (h : Nat) (cs : Cs) (P : Pt), (run B n wh false f p ln N h cs P).2.2.2.2 = P := by
  intro f
  induction f with
  | zero => intro p ln N h cs P; rfl
  | succ f ih =>
    intro p ln N h cs P
    unfold run
    by_cases z : p < n
    · rw [if_pos z]
      by_cases y : 300 < ln + 1
      · rw [if_pos y]
      · rw [if_neg y]
        cases lgF B n wh p N h cs with
        | some q => rfl
        | none => exact ih _ _ _ _ _ _
    · rw [if_neg z]
      by_cases y : 0 < cs.length
      · rw [if_pos y]
      · rw [if_neg y]
/-- names that are kept -/
theorem keepC {c : vmD} {N : Nt} (hN : FnC c N) : ∃ c', (∀ Q : vmD → Prop, Q c' → Names_keepFound c Q) ∧ gF c' 3 5 = nI N.length ∧ (∀ i, (h : i < N.length) → gL c' 5 i = lN (N[i]).1 ∧ gA c' 6 i = (N[i]).2) ∧ ModC [(3, 5)] [6] [5] c c' := by
  obtain ⟨n1, n2, n3⟩ := hN
  have key : ∀ (k i : Nat) (d : vmD), i + k = N.length → ModC [(3, 5)] [6] [5] c d → (∀ j, (h : j < N.length) → j < i → gL d 5 j = lN (N[j]).1 ∧ gA d 6 j = (N[j]).2) → ∃ c', (∀ Q : vmD → Prop, Q c' → ∃ m, Names_keepFound_2 Q m (nI i) d) ∧ gF c' 3 5 = nI N.length ∧ (∀ i, (h : i < N.length) → gL c' 5 i = lN (N[i]).1 ∧ gA c' 6 i = (N[i]).2) ∧ ModC [(3, 5)] [6] [5] c c' := by
    intro k
    induction k with
    | zero =>
      intro i d hi M hs
      have h36 : gF d 3 6 = nI N.length := (M.1 3 6 (by decide)).trans n1
      refine ⟨sF d 3 5 (nI N.length), fun Q hQ => ⟨1, ?_⟩, by rw [gF_sF, u1f_eq], fun j hj => hs j hj (by omega), M.sF (by decide) _⟩
      unfold Names_keepFound_2
      rw [h36, if_neg (nI_nlt (by omega) (by omega))]
      unfold Names_keepFound_47
      rw [h36]
      exact bnd_iff.mpr hQ
    | succ k ih =>
      intro i d hi M hs
      have h36 : gF d 3 6 = nI N.length := (M.1 3 6 (by decide)).trans n1
      obtain ⟨x1, x2, x3⟩ := n3 i (by omega)
      obtain ⟨c', E, q1, q2, q3⟩ := ih (i + 1) (sA (sL d 5 i (lN (N[i]'(by omega)).1)) 6 i (N[i]'(by omega)).2) (by omega) ((M.sL (by decide) _ _).sA (by decide) _ _) (fun j hj hji => by
        simp only [gA_sA, gA_sA_ne, gA_sF, gA_sG, gA_sL, gF_sA, gF_sF, gF_sF_ne, gF_sG, gF_sL, gG_sA, gG_sF, gG_sL, gG_sGe, gG_sG_ne, gL_sA, gL_sF, gL_sG, gL_sLe, gL_sL_ne, u1f_eq, u1f_ne, bnd_iff, not_false_eq_true, Nat.reduceEqDiff]
        by_cases z : j = i
        · subst z
          rw [u1f_eq, u1f_eq]
          exact ⟨rfl, rfl⟩
        · rw [u1f_ne _ _ z, u1f_ne _ _ z]
          exact hs j hj (by omega))
      refine ⟨c', fun Q hQ => ?_, q1, q2, q3⟩
      obtain ⟨m, hm⟩ := E Q hQ
      refine ⟨m + 1, ?_⟩
      unfold Names_keepFound_2
      rw [h36, if_pos (nI_lt (by omega) (by omega)), if_pos (show nI i < (200 : Int32) from nI_lt (b := 200) (by omega) (by omega))]
      refine ⟨nI_in (by omega) (by omega), bnd_iff.mpr ⟨nI_in (by omega) (by omega), bnd_iff.mpr ⟨nI_in (by omega) (by omega), bnd_iff.mpr ⟨nI_in (by omega) (by omega), bnd_iff.mpr (bnd_iff.mpr ?_)⟩⟩⟩⟩
      rw [nI_clamp (by omega), gA_sL, M.2.2.1 7 (by decide), M.2.1 8 (by decide), x1, x2, nI_p1]
      exact hm
  obtain ⟨c', E, q⟩ := key N.length 0 c (by omega) (ModC.refl _ _ _ _) (fun j _ h => absurd h (Nat.not_lt_zero _))
  exact ⟨c', fun Q hQ => by unfold Names_keepFound; exact E Q hQ, q⟩
abbrev XF3 : List (Nat × Nat) := [(28, 6), (28, 7), (28, 8), (28, 9), (28, 10), (28, 11), (28, 12), (21, 0), (21, 1), (21, 2), (33, 7), (33, 8), (20, 11), (20, 12), (20, 13), (22, 1), (3, 6), (20, 10), (24, 5), (24, 6), (20, 9), (20, 14), (20, 15), (20, 16), (3, 5)]
abbrev XA3 : List Nat := [29, 30, 31, 32, 34, 35, 36, 37, 2, 23, 8, 25, 26, 6]
abbrev XL3 : List Nat := [7, 27, 5]
def fgR1 (B : Nat → Nat) (n : Nat) (D : Nat → Int32) : Rs := run B n 1 false (n + 2) 0 0 [] 0 [] (D, 0, 0)
def fgR2 (B : Nat → Nat) (n : Nat) (D : Nat → Int32) : Rs := run B n 2 true (n + 2) 0 0 (fgR1 B n D).2.2.1 0 [] (D, 0, 0)
/-- the FAULT of a forge -/
def fgF (B : Nat → Nat) (n : Nat) (D : Nat → Int32) : Option (Nat × Nat × Nat) := match (fgR1 B n D).1 with
  | some v => some v
  | none => (fgR2 B n D).1
theorem forgeC {B : Nat → Nat} {n : Nat} {c : vmD} {D : Nat → Int32} (hO : SrcOk B n) (hSr : SrcC B n c) (hCC : CC c) (hD : ∀ a, a < 65536 → D a = gA c 2 a &&& 255) : ∃ v c', (∀ Q : Int32 → vmD → Prop, Q v c' → OF_forge c Q) ∧ ModC XF3 XA3 XL3 c c' ∧ (∀ w, fgF B n D = some w → v = (-10) - nI w.2.2 ∧ gF c' 21 0 = nI w.1 ∧ gF c' 21 1 = nI w.2.1 ∧ gA c' 2 = gA c 2 ∧ gF c' 20 14 = gF c 20 14 ∧ gF c' 20 15 = gF c 20 15 ∧ gF c' 20 16 = gF c 20 16 ∧ gF c' 3 5 = gF c 3 5 ∧ gA c' 6 = gA c 6 ∧ gL c' 5 = gL c 5) ∧ (fgF B n D = none → v = nI (fgR2 B n D).2.2.2.2.2.1 ∧ gF c' 21 0 = 0 ∧ gF c' 21 1 = 0 ∧ (∀ a, a < 65536 → (fgR2 B n D).2.2.2.2.1 a = gA c' 2 a &&& 255) ∧ gF c' 20 14 = nI (fgR2 B n D).2.1 ∧ gF c' 20 15 = nI (fgR2 B n D).2.2.2.2.2.2 ∧ gF c' 20 16 = nI (fgR2 B n D).2.2.2.1 ∧ gF c' 3 5 = nI (fgR1 B n D).2.2.1.length ∧ (fgR1 B n D).2.2.1.length ≤ 200 ∧ (∀ i, (h : i < (fgR1 B n D).2.2.1.length) → gL c' 5 i = lN ((fgR1 B n D).2.2.1[i]).1 ∧ gA c' 6 i = ((fgR1 B n D).2.2.1[i]).2)) := by
  obtain ⟨c0, hc0⟩ : ∃ c0, c0 = sF (sF (sF (sF c 21 0 0) 21 1 0) 21 2 0) 3 6 0 := ⟨_, rfl⟩
  have M0 : ModC [(21, 0), (21, 1), (21, 2), (3, 6)] [] [] c c0 := by
    rw [hc0]
    exact ((((ModC.refl _ _ _ c).sF (by decide) _).sF (by decide) _).sF (by decide) _).sF (by decide) _
  have hP0 : PsC B n c0 [] D (0, 0, 0) := by
    refine ⟨hO, hSr.mod M0 (by decide) (by decide), ⟨?_, Nat.zero_le _, fun i hi => absurd hi (Nat.not_lt_zero _)⟩, hCC.mod M0 (by decide) (by decide) (by decide) (by decide), fun a ha => ?_, ⟨?_, ?_, ?_, by show 0 < 65536; omega, by show 0 < 65536; omega, by show 0 < 65536; omega⟩, rfl⟩
    · rw [hc0]
      simp only [gA_sA, gA_sA_ne, gA_sF, gA_sG, gA_sL, gF_sA, gF_sF, gF_sF_ne, gF_sG, gF_sL, gG_sA, gG_sF, gG_sL, gG_sGe, gG_sG_ne, gL_sA, gL_sF, gL_sG, gL_sLe, gL_sL_ne, u1f_eq, u1f_ne, bnd_iff, not_false_eq_true, Nat.reduceEqDiff]
      rfl
    · rw [M0.2.1 2 (by decide)]
      exact hD a ha
    · rw [hc0]
      simp only [gA_sA, gA_sA_ne, gA_sF, gA_sG, gA_sL, gF_sA, gF_sF, gF_sF_ne, gF_sG, gF_sL, gG_sA, gG_sF, gG_sL, gG_sGe, gG_sG_ne, gL_sA, gL_sF, gL_sG, gL_sLe, gL_sL_ne, u1f_eq, u1f_ne, bnd_iff, not_false_eq_true, Nat.reduceEqDiff]
      rfl
    · rw [hc0]
      simp only [gA_sA, gA_sA_ne, gA_sF, gA_sG, gA_sL, gF_sA, gF_sF, gF_sF_ne, gF_sG, gF_sL, gG_sA, gG_sF, gG_sL, gG_sGe, gG_sG_ne, gL_sA, gL_sF, gL_sG, gL_sLe, gL_sL_ne, u1f_eq, u1f_ne, bnd_iff, not_false_eq_true, Nat.reduceEqDiff]
      rfl
    · rw [hc0]
      simp only [gA_sA, gA_sA_ne, gA_sF, gA_sG, gA_sL, gF_sA, gF_sF, gF_sF_ne, gF_sG, gF_sL, gG_sA, gG_sF, gG_sL, gG_sGe, gG_sG_ne, gL_sA, gL_sF, gL_sG, gL_sLe, gL_sL_ne, u1f_eq, u1f_ne, bnd_iff, not_false_eq_true, Nat.reduceEqDiff]
      rfl
  have start : ∀ (Q : Int32 → vmD → Prop) (m : Nat), OF_forge_9 Q m (nI 1) c0 → OF_forge c Q := by
    intro Q m hQ
    unfold OF_forge Forger_begin Faults_begin Names_beginFinding
    refine bnd_iff.mpr (bnd_iff.mpr (bnd_iff.mpr (bnd_iff.mpr ⟨m, ?_⟩)))
    rw [← hc0]
    exact hQ
  -- a pass is begun; the loop ends
  have goP : ∀ (Q : Int32 → vmD → Prop) (m wh : Nat) (d d' : vmD), wh < 4 → gF d 21 2 = 0 → (∀ Q : vmD → Prop, Q d' → Forger_pass (nI wh) d Q) → OF_forge_9 Q m (nI (wh + 1)) d' → OF_forge_9 Q (m + 1) (nI wh) d := by
    intro Q m wh d d' hw h2 E hQ
    unfold OF_forge_9
    rw [if_neg (show ¬ (3 : Int32) < nI wh from nI_nlt (a := 3) (by omega) (by omega))]
    unfold Forger_failed Faults_any
    rw [h2, if_pos rfl]
    refine ⟨Or.inl rfl, ?_⟩
    dsimp only
    rw [if_pos rfl]
    refine E _ (bnd_iff.mpr ?_)
    rw [nI_p1]
    exact hQ
  have endP : ∀ (Q : Int32 → vmD → Prop) (wh : Nat) (d : vmD), wh < 5 → (¬ gF d 21 2 = 0 ∨ wh = 4) → OF_forge_38 d Q → OF_forge_9 Q 1 (nI wh) d := by
    intro Q wh d hw hor hQ
    unfold OF_forge_9
    by_cases z : wh = 4
    · rw [if_pos (show (3 : Int32) < nI wh from nI_lt (a := 3) (by omega) (by omega))]
      exact hQ
    · rw [if_neg (show ¬ (3 : Int32) < nI wh from nI_nlt (a := 3) (by omega) (by omega))]
      unfold Forger_failed Faults_any
      rw [if_neg (hor.resolve_right z)]
      refine ⟨Or.inr rfl, ?_⟩
      dsimp only
      rw [if_neg (by decide)]
      exact hQ
  have ansF : ∀ (Q : Int32 → vmD → Prop) (d : vmD) (w : Fl), FltC d w → 0 < w.2.2 → Q ((-10) - nI w.2.2) d → OF_forge_38 d Q := by
    intro Q d w hw h0 hQ
    unfold OF_forge_38 Forger_answer Faults_any Faults_code
    rw [hw.2.2.1, if_neg (nI_ne0 h0 (by have := hw.2.2.2.2.2; omega))]
    dsimp only
    rw [if_neg (by decide), hw.2.2.1]
    exact hQ
  obtain ⟨c1, E1, M1, R1⟩ := onePass (wh := 1) (by omega) hP0 (Or.inl rfl)
  obtain ⟨R1a, R1b⟩ := R1 (fgR1 B n D) rfl
  have M01 : ModC XF3 XA3 XL3 c c1 := (M0.mono (by decide) (by decide) (by decide)).trans (M1.1.mono (by decide) (by decide) (by decide))
  have f0 : gF c0 21 2 = 0 := hP0.2.2.2.2.2.1.2.2.1
  have fault : ∀ (d : vmD) (w : Fl), fgF B n D = some w → FltC d w → 0 < w.2.2 → ModC XF2 VA VL c0 d → gA d 2 = gA c0 2 → (∀ Q : Int32 → vmD → Prop, Q ((-10) - nI w.2.2) d → OF_forge c Q) → ∃ v c', (∀ Q : Int32 → vmD → Prop, Q v c' → OF_forge c Q) ∧ ModC XF3 XA3 XL3 c c' ∧ (∀ w, fgF B n D = some w → v = (-10) - nI w.2.2 ∧ gF c' 21 0 = nI w.1 ∧ gF c' 21 1 = nI w.2.1 ∧ gA c' 2 = gA c 2 ∧ gF c' 20 14 = gF c 20 14 ∧ gF c' 20 15 = gF c 20 15 ∧ gF c' 20 16 = gF c 20 16 ∧ gF c' 3 5 = gF c 3 5 ∧ gA c' 6 = gA c 6 ∧ gL c' 5 = gL c 5) ∧ (fgF B n D = none → v = nI (fgR2 B n D).2.2.2.2.2.1 ∧ gF c' 21 0 = 0 ∧ gF c' 21 1 = 0 ∧ (∀ a, a < 65536 → (fgR2 B n D).2.2.2.2.1 a = gA c' 2 a &&& 255) ∧ gF c' 20 14 = nI (fgR2 B n D).2.1 ∧ gF c' 20 15 = nI (fgR2 B n D).2.2.2.2.2.2 ∧ gF c' 20 16 = nI (fgR2 B n D).2.2.2.1 ∧ gF c' 3 5 = nI (fgR1 B n D).2.2.1.length ∧ (fgR1 B n D).2.2.1.length ≤ 200 ∧ (∀ i, (h : i < (fgR1 B n D).2.2.1.length) → gL c' 5 i = lN ((fgR1 B n D).2.2.1[i]).1 ∧ gA c' 6 i = ((fgR1 B n D).2.2.1[i]).2)) := by
    intro d w hw hF h0 M hm E
    refine ⟨_, d, E, (M0.mono (by decide) (by decide) (by decide)).trans (M.mono (by decide) (by decide) (by decide)), fun w2 h2 => ?_, fun h2 => ?_⟩
    · rw [hw] at h2
      cases h2
      refine ⟨rfl, hF.1, hF.2.1, hm.trans (M0.2.1 2 (by decide)), (M.1 20 14 (by decide)).trans (M0.1 20 14 (by decide)), (M.1 20 15 (by decide)).trans (M0.1 20 15 (by decide)), (M.1 20 16 (by decide)).trans (M0.1 20 16 (by decide)), (M.1 3 5 (by decide)).trans (M0.1 3 5 (by decide)), (M.2.1 6 (by decide)).trans (M0.2.1 6 (by decide)), (M.2.2.1 5 (by decide)).trans (M0.2.2.1 5 (by decide))⟩
    · rw [hw] at h2
      cases h2
  cases e1 : (fgR1 B n D).1 with
  | some w =>
    obtain ⟨F1, w0⟩ := R1b w e1
    have eF : fgF B n D = some w := by unfold fgF; rw [e1]
    refine fault c1 w eF F1 w0 M1.1 (M1.2 (by decide)) (fun Q hQ => start Q 2 (goP Q 1 1 c0 c1 (by omega) f0 E1 (endP Q 2 c1 (by omega) (Or.inl ?_) (ansF Q c1 w F1 w0 hQ))))
    rw [F1.2.2.1]
    exact nI_ne0 w0 (by have := F1.2.2.2.2.2; omega)
  | none =>
    obtain ⟨F1, B1, l1⟩ := R1a e1
    have eF : fgF B n D = (fgR2 B n D).1 := by unfold fgF; rw [e1]
    obtain ⟨hgood, -⟩ := run1_good (n + 2) 0 0 [] 0 [] (D, 0, 0) e1
    have hgood : Good B n (fgR1 B n D).2.2.1 (n + 2) 0 0 0 [] := hgood
    have hP1 := hP0.next (by decide) M1 F1 B1
    have f1 : gF c1 21 2 = 0 := F1.2.2.1
    obtain ⟨c2, E2, M2, R2⟩ := onePass (wh := 2) (by omega) hP1 (Or.inr hgood)
    obtain ⟨R2a, R2b⟩ := R2 (run B n 2 false (n + 2) 0 0 (fgR1 B n D).2.2.1 0 [] (D, 0, 0)) rfl
    obtain ⟨p1, p2, p3, p4⟩ := run_put (B := B) (n := n) (wh := 2) (put := true) (n + 2) 0 0 (fgR1 B n D).2.2.1 0 [] (D, 0, 0) (D, 0, 0)
    have p1 : (fgR2 B n D).1 = _ := p1
    cases e2 : (fgR2 B n D).1 with
    | some w =>
      rw [e2] at p1 eF
      obtain ⟨F2, w0⟩ := R2b w p1.symm
      refine fault c2 w eF F2 w0 (M1.1.trans M2.1) ((M2.2 (by decide)).trans (M1.2 (by decide))) (fun Q hQ => start Q 3 (goP Q 2 1 c0 c1 (by omega) f0 E1 (goP Q 1 2 c1 c2 (by omega) f1 E2 (endP Q 3 c2 (by omega) (Or.inl ?_) (ansF Q c2 w F2 w0 hQ)))))
      rw [F2.2.2.1]
      exact nI_ne0 w0 (by have := F2.2.2.2.2.2; omega)
    | none =>
      rw [e2] at p1 eF
      obtain ⟨F2, B2, l2⟩ := R2a p1.symm
      rw [run_N (wh := 2) (by decide)] at B2
      have hP2 := hP1.next (by decide) M2 F2 B2
      have f2 : gF c2 21 2 = 0 := F2.2.2.1
      obtain ⟨c3, E3, M3, R3⟩ := onePass (wh := 3) (by omega) hP2 (Or.inr hgood)
      have e3 : run B n 3 true (n + 2) 0 0 (fgR1 B n D).2.2.1 0 [] (D, 0, 0) = fgR2 B n D := run_23 _ _ _ _ _ _ _ e2
      obtain ⟨R3a, -⟩ := R3 (fgR2 B n D) e3.symm
      obtain ⟨F3, B3, l3⟩ := R3a e2
      have eN : (fgR2 B n D).2.2.1 = (fgR1 B n D).2.2.1 := run_N (wh := 2) (by decide) _ _ _ _ _ _ _
      rw [eN] at B3
      obtain ⟨g1, g2, g3, g4, g5, g6, g7, g8⟩ := B3
      obtain ⟨c4, E4, k1, k2, M4⟩ := keepC g3
      have f3 : gF c3 21 2 = 0 := F3.2.2.1
      obtain ⟨c5, hc5⟩ : ∃ c5, c5 = sF (sF (sF c4 20 14 (nI (fgR2 B n D).2.1)) 20 15 (nI (fgR2 B n D).2.2.2.2.2.2)) 20 16 (nI (fgR2 B n D).2.2.2.1) := ⟨_, rfl⟩
      have M5 : ModC [(20, 14), (20, 15), (20, 16)] [] [] c4 c5 := by
        rw [hc5]
        exact (((ModC.refl _ _ _ c4).sF (by decide) _).sF (by decide) _).sF (by decide) _
      have M45 : ModC [(3, 5), (20, 14), (20, 15), (20, 16)] [6] [5] c3 c5 := (M4.mono (by decide) (by decide) (by decide)).trans (M5.mono (by decide) (by decide) (by decide))
      refine ⟨nI (fgR2 B n D).2.2.2.2.2.1, c5, fun Q hQ => start Q 4 (goP Q 3 1 c0 c1 (by omega) f0 E1 (goP Q 2 2 c1 c2 (by omega) f1 E2 (goP Q 1 3 c2 c3 (by omega) f2 E3 (endP Q 4 c3 (by omega) (Or.inr rfl) ?_)))), (((M01.trans (M2.1.mono (by decide) (by decide) (by decide))).trans (M3.1.mono (by decide) (by decide) (by decide))).trans (M45.mono (by decide) (by decide) (by decide))), fun w hw => ?_, fun _ => ?_⟩
      · unfold OF_forge_38 Forger_answer Faults_any
        rw [f3, if_pos rfl]
        dsimp only
        rw [if_pos rfl]
        refine E4 _ (bnd_iff.mpr (bnd_iff.mpr (bnd_iff.mpr ?_)))
        have h10 : gF c4 20 10 = nI (fgR2 B n D).2.1 := (M4.1 20 10 (by decide)).trans l3
        have h13 : gF c4 20 13 = nI (fgR2 B n D).2.2.2.2.2.2 := (M4.1 20 13 (by decide)).trans g8.2.2
        have h11 : gF c4 20 11 = nI (fgR2 B n D).2.2.2.1 := (M4.1 20 11 (by decide)).trans g6
        have h12 : gF c5 20 12 = nI (fgR2 B n D).2.2.2.2.2.1 := (M45.1 20 12 (by decide)).trans g8.2.1
        rw [h10]
        have q13 : gF (sF c4 20 14 (nI (fgR2 B n D).2.1)) 20 13 = nI (fgR2 B n D).2.2.2.2.2.2 := by
          rw [gF_sF, u1f_ne _ _ (by decide)]
          exact h13
        rw [q13]
        have q11 : gF (sF (sF c4 20 14 (nI (fgR2 B n D).2.1)) 20 15 (nI (fgR2 B n D).2.2.2.2.2.2)) 20 11 = nI (fgR2 B n D).2.2.2.1 := by
          rw [gF_sF, u1f_ne _ _ (by decide), gF_sF, u1f_ne _ _ (by decide)]
          exact h11
        rw [q11, ← hc5, h12]
        exact hQ
      · rw [eF] at hw
        cases hw
      · refine ⟨rfl, (M45.1 21 0 (by decide)).trans F3.1, (M45.1 21 1 (by decide)).trans F3.2.1, fun a ha => ?_, ?_, ?_, ?_, (M5.1 3 5 (by decide)).trans k1, g3.2.1, fun i hi => ?_⟩
        · rw [M45.2.1 2 (by decide)]
          exact g8.1 a ha
        · rw [hc5]
          simp only [gA_sA, gA_sA_ne, gA_sF, gA_sG, gA_sL, gF_sA, gF_sF, gF_sF_ne, gF_sG, gF_sL, gG_sA, gG_sF, gG_sL, gG_sGe, gG_sG_ne, gL_sA, gL_sF, gL_sG, gL_sLe, gL_sL_ne, u1f_eq, u1f_ne, bnd_iff, not_false_eq_true, Nat.reduceEqDiff]
        · rw [hc5]
          simp only [gA_sA, gA_sA_ne, gA_sF, gA_sG, gA_sL, gF_sA, gF_sF, gF_sF_ne, gF_sG, gF_sL, gG_sA, gG_sF, gG_sL, gG_sGe, gG_sG_ne, gL_sA, gL_sF, gL_sG, gL_sLe, gL_sL_ne, u1f_eq, u1f_ne, bnd_iff, not_false_eq_true, Nat.reduceEqDiff]
        · rw [hc5]
          simp only [gA_sA, gA_sA_ne, gA_sF, gA_sG, gA_sL, gF_sA, gF_sF, gF_sF_ne, gF_sG, gF_sL, gG_sA, gG_sF, gG_sL, gG_sGe, gG_sG_ne, gL_sA, gL_sF, gL_sG, gL_sLe, gL_sL_ne, u1f_eq, u1f_ne, bnd_iff, not_false_eq_true, Nat.reduceEqDiff]
        · rw [M5.2.2.1 5 (by decide), M5.2.1 6 (by decide)]
          exact k2 i hi
