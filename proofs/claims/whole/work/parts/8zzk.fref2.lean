/-! forge, the reference's side: the whole -/
theorem keyN_cong {f g : Nat → Int32} : ∀ m, (∀ j, j < m → f j = g j) → keyN f m = keyN g m := by
  intro m
  induction m with
  | zero => intro _; rfl
  | succ m ih =>
    intro h
    unfold keyN
    rw [ih (fun j hj => h j (by omega)), h m (by omega)]
theorem onePassR {B : Nat → Nat} {n : Nat} {d : vmD} {N : Nt} {D : Nat → Int32} {sec : Bool} (hO : SrcOk B n) (hS : SrcR B n d) (hN : FnR d N) (h42 : gF d 42 42 = kb sec) (h8 : gF d 42 8 = 0) (hP : PtR sec d (D, 0, 0)) (hw : sec = true → Good B n N (n + 2) 0 0 0 []) : ∃ r' b, (∀ Q : Int32 → vmD → Prop, Q b r' → MO_pass d Q) ∧ ModR UF GRA d r' ∧ (∀ R : Rs, R = run B n (whS sec) sec (n + 2) 0 0 N 0 [] (D, 0, 0) → (R.1 = none → b = 1 ∧ BtR B n r' R.2.2.1 sec R.2.2.2.1 [] R.2.2.2.2 ∧ gF r' 42 41 = nI R.2.1) ∧ (∀ v, R.1 = some v → b = 0 ∧ gF r' 42 8 = nI v.2.2 ∧ gF r' 42 9 = nI v.2.1 ∧ gF r' 42 41 = nI v.1)) := by
  obtain ⟨d1, hd1⟩ : ∃ d1, d1 = sF (sF (sF (sF d 42 20 0) 42 45 0) 42 41 0) 42 2 0 := ⟨_, rfl⟩
  have M1 : ModR [20, 45, 41, 2] [] d d1 := by
    rw [hd1]
    exact ((((ModR.refl _ _ d).sF (by decide) _).sF (by decide) _).sF (by decide) _).sF (by decide) _
  have e20 : gF d1 42 20 = nI 0 := by
    rw [hd1]
    simp only [gA_sA, gA_sA_ne, gA_sF, gA_sG, gA_sL, gF_sA, gF_sF, gF_sF_ne, gF_sG, gF_sL, gG_sA, gG_sF, gG_sL, gG_sGe, gG_sG_ne, gL_sA, gL_sF, gL_sG, gL_sLe, gL_sL_ne, u1f_eq, u1f_ne, bnd_iff, not_false_eq_true, Nat.reduceEqDiff]
    rfl
  have e45 : gF d1 42 45 = nI 0 := by
    rw [hd1]
    simp only [gA_sA, gA_sA_ne, gA_sF, gA_sG, gA_sL, gF_sA, gF_sF, gF_sF_ne, gF_sG, gF_sL, gG_sA, gG_sF, gG_sL, gG_sGe, gG_sG_ne, gL_sA, gL_sF, gL_sG, gL_sLe, gL_sL_ne, u1f_eq, u1f_ne, bnd_iff, not_false_eq_true, Nat.reduceEqDiff]
    rfl
  have e41 : gF d1 42 41 = nI 0 := by
    rw [hd1]
    simp only [gA_sA, gA_sA_ne, gA_sF, gA_sG, gA_sL, gF_sA, gF_sF, gF_sF_ne, gF_sG, gF_sL, gG_sA, gG_sF, gG_sL, gG_sGe, gG_sG_ne, gL_sA, gL_sF, gL_sG, gL_sLe, gL_sL_ne, u1f_eq, u1f_ne, bnd_iff, not_false_eq_true, Nat.reduceEqDiff]
    rfl
  have e2 : gF d1 42 2 = nI 0 := by
    rw [hd1]
    simp only [gA_sA, gA_sA_ne, gA_sF, gA_sG, gA_sL, gF_sA, gF_sF, gF_sF_ne, gF_sG, gF_sL, gG_sA, gG_sF, gG_sL, gG_sGe, gG_sG_ne, gL_sA, gL_sF, gL_sG, gL_sLe, gL_sL_ne, u1f_eq, u1f_ne, bnd_iff, not_false_eq_true, Nat.reduceEqDiff]
    rfl
  have hB : BtR B n d1 N sec 0 [] (D, 0, 0) := by
    refine ⟨hO, hS.mod M1 (by decide) (by decide), ?_, e20, (M1.2.1 42 (by decide)).trans h42, (M1.2.1 8 (by decide)).trans h8, ⟨e45, Nat.zero_le _, True.intro, True.intro⟩, ?_⟩
    · unfold FnR at hN ⊢
      rw [M1.2.1 13 (by decide), M1.2.2.1 44 (by decide), M1.2.2.1 45 (by decide), M1.2.2.1 46 (by decide)]
      exact hN
    · unfold PtR at hP ⊢
      rw [M1.2.2.1 56 (by decide), M1.2.1 39 (by decide), M1.2.1 40 (by decide)]
      exact hP
  obtain ⟨r', b, E, M, R⟩ := passR (sec := sec) (n + 2) 0 0 N 0 [] (D, 0, 0) d1 (by omega) (by omega) hB e2 e41 (by omega) (by omega) (by show 0 ≤ 0 * 65536; omega) hw
  refine ⟨r', b, fun Q hQ => ?_, (M1.mono (by decide) (by decide)).trans M, R⟩
  unfold MO_pass
  refine bnd_iff.mpr (bnd_iff.mpr (bnd_iff.mpr (bnd_iff.mpr ?_)))
  rw [← hd1]
  exact E Q hQ
abbrev UG : List Nat := [42, 46, 47, 2, 3, 4, 5, 6, 8, 9, 16, 18, 19, 22, 28, 13, 20, 29, 30, 31, 32, 33, 34, 35, 36, 39, 40, 45, 55, 56, 57, 21, 41]
abbrev UH : List Nat := [48, 49, 50, 51, 42, 46, 47, 2, 3, 4, 5, 6, 8, 9, 16, 18, 19, 22, 28, 13, 20, 29, 30, 31, 32, 33, 34, 35, 36, 39, 40, 45, 55, 56, 57, 21, 41]
abbrev GRH : List Nat := [55, 59, 60, 61, 47, 48, 49, 50, 51, 52, 53, 54, 44, 45, 46, 56, 57, 58]
theorem forgeR {B : Nat → Nat} {n : Nat} {r : vmD} {D : Nat → Int32} (hO : SrcOk B n) (hSr : SrcR B n r) (hD : ∀ a, a < 65536 → D a = gA r 55 a) : ∃ v r', (∀ Q : Int32 → vmD → Prop, Q v r' → MO_forge r Q) ∧ ModR UH GRH r r' ∧ (∀ w, fgF B n D = some w → v = (-10) - nI w.2.2 ∧ gF r' 42 46 = nI w.1 ∧ gF r' 42 47 = nI w.2.1 ∧ ModR UG GRA r r') ∧ (fgF B n D = none → v = nI (fgR2 B n D).2.2.2.2.2.1 ∧ gF r' 42 46 = 0 ∧ gF r' 42 47 = 0 ∧ (∀ a, a < 65536 → gA r' 55 a = (fgR2 B n D).2.2.2.2.1 a) ∧ gF r' 42 48 = nI (fgR2 B n D).2.1 ∧ gF r' 42 49 = nI (fgR2 B n D).2.2.2.2.2.2 ∧ gF r' 42 50 = nI (fgR2 B n D).2.2.2.1 ∧ gF r' 42 51 = nI (fgR1 B n D).2.2.1.length ∧ (∀ i, (h : i < (fgR1 B n D).2.2.1.length) → RKey (lN ((fgR1 B n D).2.2.1[i]).1) (gA r' 60 i) (fun j => gA r' 59 (12 * i + j)) ∧ gA r' 61 i = ((fgR1 B n D).2.2.1[i]).2)) := by
  obtain ⟨d0, hd0⟩ : ∃ d0, d0 = sF (sF (sF r 42 8 0) 42 13 0) 42 42 0 := ⟨_, rfl⟩
  have M0 : ModR [8, 13, 42] [] r d0 := by
    rw [hd0]
    exact (((ModR.refl _ _ r).sF (by decide) _).sF (by decide) _).sF (by decide) _
  obtain ⟨d1, E1, M1, h56⟩ := cp17 d0 65536 0 d0 rfl (ModR.refl _ _ _) (fun a ha => absurd ha (Nat.not_lt_zero _))
  have M01 : ModR [8, 13, 42] [56] r d1 := (M0.mono (by decide) (by decide)).trans (M1.mono (by decide) (by decide))
  have M01' : ModR UG GRA r d1 := M01.mono (by decide) (by decide)
  have e8 : gF d1 42 8 = 0 := by
    rw [M1.2.1 8 (by decide), hd0]
    simp only [gA_sA, gA_sA_ne, gA_sF, gA_sG, gA_sL, gF_sA, gF_sF, gF_sF_ne, gF_sG, gF_sL, gG_sA, gG_sF, gG_sL, gG_sGe, gG_sG_ne, gL_sA, gL_sF, gL_sG, gL_sLe, gL_sL_ne, u1f_eq, u1f_ne, bnd_iff, not_false_eq_true, Nat.reduceEqDiff]
  have e13 : gF d1 42 13 = nI 0 := by
    rw [M1.2.1 13 (by decide), hd0]
    simp only [gA_sA, gA_sA_ne, gA_sF, gA_sG, gA_sL, gF_sA, gF_sF, gF_sF_ne, gF_sG, gF_sL, gG_sA, gG_sF, gG_sL, gG_sGe, gG_sG_ne, gL_sA, gL_sF, gL_sG, gL_sLe, gL_sL_ne, u1f_eq, u1f_ne, bnd_iff, not_false_eq_true, Nat.reduceEqDiff]
    rfl
  have e42 : gF d1 42 42 = kb false := by
    rw [M1.2.1 42 (by decide), hd0]
    simp only [gA_sA, gA_sA_ne, gA_sF, gA_sG, gA_sL, gF_sA, gF_sF, gF_sF_ne, gF_sG, gF_sL, gG_sA, gG_sF, gG_sL, gG_sGe, gG_sG_ne, gL_sA, gL_sF, gL_sG, gL_sLe, gL_sL_ne, u1f_eq, u1f_ne, bnd_iff, not_false_eq_true, Nat.reduceEqDiff]
    rfl
  have hP1 : ∀ a, a < 65536 → gA d1 56 a = D a := by
    intro a ha
    rw [h56 a ha, M0.2.2.1 55 (by decide), hD a ha]
  have start : ∀ Q : Int32 → vmD → Prop, (MO_pass d1 fun r_11 d_10 => if r_11 = 0 then (MO_forge_70 r_11 d_10 Q) else (bnd (sF d_10 42 42 1) fun d_44 => bnd (sF d_44 42 39 0) fun d_45 => bnd (sF d_45 42 40 0) fun d_46 => MO_pass d_46 fun r_48 d_47 => MO_forge_70 r_48 d_47 Q)) → MO_forge r Q := by
    intro Q hQ
    unfold MO_forge
    refine bnd_iff.mpr (bnd_iff.mpr (bnd_iff.mpr ?_))
    rw [← hd0]
    exact E1 Q hQ
  have fin : ∀ (d : vmD) (w : Nat × Nat × Nat), fgF B n D = some w → ModR UG GRA r d → gF d 42 8 = nI w.2.2 → gF d 42 9 = nI w.2.1 → gF d 42 41 = nI w.1 → (∀ Q : Int32 → vmD → Prop, MO_forge_70 0 d Q → MO_forge r Q) → ∃ v r', (∀ Q : Int32 → vmD → Prop, Q v r' → MO_forge r Q) ∧ ModR UH GRH r r' ∧ (∀ w, fgF B n D = some w → v = (-10) - nI w.2.2 ∧ gF r' 42 46 = nI w.1 ∧ gF r' 42 47 = nI w.2.1 ∧ ModR UG GRA r r') ∧ (fgF B n D = none → v = nI (fgR2 B n D).2.2.2.2.2.1 ∧ gF r' 42 46 = 0 ∧ gF r' 42 47 = 0 ∧ (∀ a, a < 65536 → gA r' 55 a = (fgR2 B n D).2.2.2.2.1 a) ∧ gF r' 42 48 = nI (fgR2 B n D).2.1 ∧ gF r' 42 49 = nI (fgR2 B n D).2.2.2.2.2.2 ∧ gF r' 42 50 = nI (fgR2 B n D).2.2.2.1 ∧ gF r' 42 51 = nI (fgR1 B n D).2.2.1.length ∧ (∀ i, (h : i < (fgR1 B n D).2.2.1.length) → RKey (lN ((fgR1 B n D).2.2.1[i]).1) (gA r' 60 i) (fun j => gA r' 59 (12 * i + j)) ∧ gA r' 61 i = ((fgR1 B n D).2.2.1[i]).2)) := by
    intro d w hw M w8 w9 w41 E
    obtain ⟨d', hd'⟩ : ∃ d', d' = sF (sF d 42 46 (nI w.1)) 42 47 (nI w.2.1) := ⟨_, rfl⟩
    have Md : ModR UG GRA r d' := by
      rw [hd']
      exact (M.sF (by decide) _).sF (by decide) _
    refine ⟨(-10) - nI w.2.2, d', fun Q hQ => E Q ?_, Md.mono (by decide) (by decide), fun w2 h2 => ?_, fun h2 => ?_⟩
    · unfold MO_forge_70
      rw [if_pos rfl, w41]
      refine bnd_iff.mpr (bnd_iff.mpr ?_)
      have q9 : gF (sF d 42 46 (nI w.1)) 42 9 = nI w.2.1 := by
        simp only [gA_sA, gA_sA_ne, gA_sF, gA_sG, gA_sL, gF_sA, gF_sF, gF_sF_ne, gF_sG, gF_sL, gG_sA, gG_sF, gG_sL, gG_sGe, gG_sG_ne, gL_sA, gL_sF, gL_sG, gL_sLe, gL_sL_ne, u1f_eq, u1f_ne, bnd_iff, not_false_eq_true, Nat.reduceEqDiff]
        exact w9
      rw [q9, ← hd']
      have q8 : gF d' 42 8 = nI w.2.2 := by
        rw [hd']
        simp only [gA_sA, gA_sA_ne, gA_sF, gA_sG, gA_sL, gF_sA, gF_sF, gF_sF_ne, gF_sG, gF_sL, gG_sA, gG_sF, gG_sL, gG_sGe, gG_sG_ne, gL_sA, gL_sF, gL_sG, gL_sLe, gL_sL_ne, u1f_eq, u1f_ne, bnd_iff, not_false_eq_true, Nat.reduceEqDiff]
        exact w8
      rw [q8]
      exact hQ
    · rw [hw] at h2
      cases h2
      refine ⟨rfl, ?_, ?_, Md⟩
      · rw [hd']
        simp only [gA_sA, gA_sA_ne, gA_sF, gA_sG, gA_sL, gF_sA, gF_sF, gF_sF_ne, gF_sG, gF_sL, gG_sA, gG_sF, gG_sL, gG_sGe, gG_sG_ne, gL_sA, gL_sF, gL_sG, gL_sLe, gL_sL_ne, u1f_eq, u1f_ne, bnd_iff, not_false_eq_true, Nat.reduceEqDiff]
      · rw [hd']
        simp only [gA_sA, gA_sA_ne, gA_sF, gA_sG, gA_sL, gF_sA, gF_sF, gF_sF_ne, gF_sG, gF_sL, gG_sA, gG_sF, gG_sL, gG_sGe, gG_sG_ne, gL_sA, gL_sF, gL_sG, gL_sLe, gL_sL_ne, u1f_eq, u1f_ne, bnd_iff, not_false_eq_true, Nat.reduceEqDiff]
    · rw [hw] at h2
      cases h2
  obtain ⟨d2, b2, E2, M2, R2⟩ := onePassR (sec := false) hO (hSr.mod M01 (by decide) (by decide)) (N := []) ⟨e13, Nat.zero_le _, fun i hi => absurd hi (Nat.not_lt_zero _)⟩ e42 e8 ⟨hP1, fun q => (by cases q)⟩ (fun q => (by cases q))
  obtain ⟨R2a, R2b⟩ := R2 (fgR1 B n D) rfl
  have M02 : ModR UG GRA r d2 := M01'.trans (M2.mono (by decide) (by decide))
  cases e1 : (fgR1 B n D).1 with
  | some w =>
    obtain ⟨b0, w8, w9, w41⟩ := R2b w e1
    have eF : fgF B n D = some w := by unfold fgF; rw [e1]
    refine fin d2 w eF M02 w8 w9 w41 (fun Q hQ => start Q (E2 _ ?_))
    rw [b0, if_pos rfl]
    exact hQ
  | none =>
    obtain ⟨b1, B2, -⟩ := R2a e1
    have eF : fgF B n D = (fgR2 B n D).1 := by unfold fgF; rw [e1]
    obtain ⟨hgood, -⟩ := run1_good (n + 2) 0 0 [] 0 [] (D, 0, 0) e1
    have hgood : Good B n (fgR1 B n D).2.2.1 (n + 2) 0 0 0 [] := hgood
    obtain ⟨d3, hd3⟩ : ∃ d3, d3 = sF (sF (sF d2 42 42 1) 42 39 0) 42 40 0 := ⟨_, rfl⟩
    have M3 : ModR [42, 39, 40] [] d2 d3 := by
      rw [hd3]
      exact (((ModR.refl _ _ d2).sF (by decide) _).sF (by decide) _).sF (by decide) _
    have M03 : ModR UG GRA r d3 := M02.trans (M3.mono (by decide) (by decide))
    obtain ⟨-, k1, k2, -, -, k3, -, k4⟩ := B2
    have eP : (fgR1 B n D).2.2.2.2 = (D, 0, 0) := run_P _ _ _ _ _ _ _
    rw [eP] at k4
    have k2' : FnR d3 (fgR1 B n D).2.2.1 := by
      unfold FnR at k2 ⊢
      rw [M3.2.1 13 (by decide), M3.2.2.1 44 (by decide), M3.2.2.1 45 (by decide), M3.2.2.1 46 (by decide)]
      exact k2
    have g42 : gF d3 42 42 = kb true := by
      rw [hd3]
      simp only [gA_sA, gA_sA_ne, gA_sF, gA_sG, gA_sL, gF_sA, gF_sF, gF_sF_ne, gF_sG, gF_sL, gG_sA, gG_sF, gG_sL, gG_sGe, gG_sG_ne, gL_sA, gL_sF, gL_sG, gL_sLe, gL_sL_ne, u1f_eq, u1f_ne, bnd_iff, not_false_eq_true, Nat.reduceEqDiff]
      rfl
    have g39 : gF d3 42 39 = nI 0 := by
      rw [hd3]
      simp only [gA_sA, gA_sA_ne, gA_sF, gA_sG, gA_sL, gF_sA, gF_sF, gF_sF_ne, gF_sG, gF_sL, gG_sA, gG_sF, gG_sL, gG_sGe, gG_sG_ne, gL_sA, gL_sF, gL_sG, gL_sLe, gL_sL_ne, u1f_eq, u1f_ne, bnd_iff, not_false_eq_true, Nat.reduceEqDiff]
      rfl
    have g40 : gF d3 42 40 = nI 0 := by
      rw [hd3]
      simp only [gA_sA, gA_sA_ne, gA_sF, gA_sG, gA_sL, gF_sA, gF_sF, gF_sF_ne, gF_sG, gF_sL, gG_sA, gG_sF, gG_sL, gG_sGe, gG_sG_ne, gL_sA, gL_sF, gL_sG, gL_sLe, gL_sL_ne, u1f_eq, u1f_ne, bnd_iff, not_false_eq_true, Nat.reduceEqDiff]
      rfl
    obtain ⟨d4, b4, E4, M4, R4⟩ := onePassR (sec := true) (D := D) hO (k1.mod M3 (by decide) (by decide)) k2' g42 ((M3.2.1 8 (by decide)).trans k3) ⟨fun a ha => by rw [M3.2.2.1 56 (by decide)]; exact k4.1 a ha, fun _ => ⟨g39, g40⟩⟩ (fun _ => hgood)
    obtain ⟨R4a, R4b⟩ := R4 (fgR2 B n D) rfl
    have M04 : ModR UG GRA r d4 := M03.trans (M4.mono (by decide) (by decide))
    have two : ∀ Q : Int32 → vmD → Prop, MO_forge_70 b4 d4 Q → MO_forge r Q := by
      intro Q hQ
      refine start Q (E2 _ ?_)
      rw [b1, if_neg (by decide)]
      refine bnd_iff.mpr (bnd_iff.mpr (bnd_iff.mpr ?_))
      rw [← hd3]
      exact E4 _ hQ
    cases e2 : (fgR2 B n D).1 with
    | some w =>
      obtain ⟨b0, w8, w9, w41⟩ := R4b w e2
      rw [e2] at eF
      refine fin d4 w eF M04 w8 w9 w41 (fun Q hQ => two Q ?_)
      rw [b0]
      exact hQ
    | none =>
      rw [e2] at eF
      obtain ⟨c1, B4, l41⟩ := R4a e2
      have eN : (fgR2 B n D).2.2.1 = (fgR1 B n D).2.2.1 := run_N (wh := 2) (by decide) _ _ _ _ _ _ _
      rw [eN] at B4
      obtain ⟨-, -, q2, q20, -, -, -, q4⟩ := B4
      obtain ⟨d5, hd5⟩ : ∃ d5, d5 = sF (sF (sF (sF (sF d4 42 46 0) 42 47 0) 42 48 (nI (fgR2 B n D).2.1)) 42 49 (nI (fgR2 B n D).2.2.2.2.2.2)) 42 50 (nI (fgR2 B n D).2.2.2.1) := ⟨_, rfl⟩
      have M5 : ModR [46, 47, 48, 49, 50] [] d4 d5 := by
        rw [hd5]
        exact (((((ModR.refl _ _ d4).sF (by decide) _).sF (by decide) _).sF (by decide) _).sF (by decide) _).sF (by decide) _
      obtain ⟨d6, E6, M6, h55⟩ := cp134 d5 65536 0 d5 rfl (ModR.refl _ _ _) (fun a ha => absurd ha (Nat.not_lt_zero _))
      obtain ⟨d7, hd7⟩ : ∃ d7, d7 = sF d6 42 51 (gF d6 42 13) := ⟨_, rfl⟩
      have M7 : ModR [51] [] d6 d7 := by
        rw [hd7]
        exact (ModR.refl _ _ d6).sF (by decide) _
      have M47 : ModR [46, 47, 48, 49, 50, 51] [55] d4 d7 := ((M5.mono (by decide) (by decide)).trans (M6.mono (by decide) (by decide))).trans (M7.mono (by decide) (by decide))
      have f13 : gF d6 42 13 = nI (fgR1 B n D).2.2.1.length := by
        rw [M6.2.1 13 (by decide), M5.2.1 13 (by decide)]
        exact q2.1
      have f13' : gF d7 42 13 = nI (fgR1 B n D).2.2.1.length := by
        rw [M7.2.1 13 (by decide)]
        exact f13
      obtain ⟨d8, E8, M8, hk⟩ := cp168 d7 _ q2.2.1 f13' _ 0 d7 (Nat.zero_add _) (ModR.refl _ _ _) (fun j hj => absurd hj (Nat.not_lt_zero _))
      have f39 : gF d7 42 39 = nI (fgR2 B n D).2.2.2.2.2.1 := (M47.2.1 39 (by decide)).trans (q4.2 rfl).1
      rw [f39] at E8
      have M78 : ModR [51] [59, 60, 61] d6 d8 := (M7.mono (by decide) (by decide)).trans (M8.mono (by decide) (by decide))
      have M68 : ModR [51] [55, 59, 60, 61] d5 d8 := (M6.mono (by decide) (by decide)).trans (M78.mono (by decide) (by decide))
      refine ⟨_, d8, fun Q hQ => two Q ?_, ((M04.mono (by decide) (by decide)).trans (M47.mono (by decide) (by decide))).trans (M8.mono (by decide) (by decide)), fun w hw => ?_, fun _ => ⟨rfl, ?_, ?_, fun a ha => ?_, ?_, ?_, ?_, ?_, fun i hi => ?_⟩⟩
      · rw [c1]
        unfold MO_forge_70
        rw [if_neg (by decide)]
        refine bnd_iff.mpr (bnd_iff.mpr (bnd_iff.mpr (bnd_iff.mpr (bnd_iff.mpr ?_))))
        have s41 : gF (sF (sF d4 42 46 0) 42 47 0) 42 41 = nI (fgR2 B n D).2.1 := by
          simp only [gA_sA, gA_sA_ne, gA_sF, gA_sG, gA_sL, gF_sA, gF_sF, gF_sF_ne, gF_sG, gF_sL, gG_sA, gG_sF, gG_sL, gG_sGe, gG_sG_ne, gL_sA, gL_sF, gL_sG, gL_sLe, gL_sL_ne, u1f_eq, u1f_ne, bnd_iff, not_false_eq_true, Nat.reduceEqDiff]
          exact l41
        rw [s41]
        have s40 : gF (sF (sF (sF d4 42 46 0) 42 47 0) 42 48 (nI (fgR2 B n D).2.1)) 42 40 = nI (fgR2 B n D).2.2.2.2.2.2 := by
          simp only [gA_sA, gA_sA_ne, gA_sF, gA_sG, gA_sL, gF_sA, gF_sF, gF_sF_ne, gF_sG, gF_sL, gG_sA, gG_sF, gG_sL, gG_sGe, gG_sG_ne, gL_sA, gL_sF, gL_sG, gL_sLe, gL_sL_ne, u1f_eq, u1f_ne, bnd_iff, not_false_eq_true, Nat.reduceEqDiff]
          exact (q4.2 rfl).2
        rw [s40]
        have s20 : gF (sF (sF (sF (sF d4 42 46 0) 42 47 0) 42 48 (nI (fgR2 B n D).2.1)) 42 49 (nI (fgR2 B n D).2.2.2.2.2.2)) 42 20 = nI (fgR2 B n D).2.2.2.1 := by
          simp only [gA_sA, gA_sA_ne, gA_sF, gA_sG, gA_sL, gF_sA, gF_sF, gF_sF_ne, gF_sG, gF_sL, gG_sA, gG_sF, gG_sL, gG_sGe, gG_sG_ne, gL_sA, gL_sF, gL_sG, gL_sLe, gL_sL_ne, u1f_eq, u1f_ne, bnd_iff, not_false_eq_true, Nat.reduceEqDiff]
          exact q20
        rw [s20, ← hd5]
        refine E6 Q ?_
        rw [← hd7]
        exact E8 Q hQ
      · rw [eF] at hw
        cases hw
      · rw [M68.2.1 46 (by decide), hd5]
        simp only [gA_sA, gA_sA_ne, gA_sF, gA_sG, gA_sL, gF_sA, gF_sF, gF_sF_ne, gF_sG, gF_sL, gG_sA, gG_sF, gG_sL, gG_sGe, gG_sG_ne, gL_sA, gL_sF, gL_sG, gL_sLe, gL_sL_ne, u1f_eq, u1f_ne, bnd_iff, not_false_eq_true, Nat.reduceEqDiff]
      · rw [M68.2.1 47 (by decide), hd5]
        simp only [gA_sA, gA_sA_ne, gA_sF, gA_sG, gA_sL, gF_sA, gF_sF, gF_sF_ne, gF_sG, gF_sL, gG_sA, gG_sF, gG_sL, gG_sGe, gG_sG_ne, gL_sA, gL_sF, gL_sG, gL_sLe, gL_sL_ne, u1f_eq, u1f_ne, bnd_iff, not_false_eq_true, Nat.reduceEqDiff]
      · rw [M78.2.2.1 55 (by decide), h55 a ha, M5.2.2.1 56 (by decide)]
        exact q4.1 a ha
      · rw [M68.2.1 48 (by decide), hd5]
        simp only [gA_sA, gA_sA_ne, gA_sF, gA_sG, gA_sL, gF_sA, gF_sF, gF_sF_ne, gF_sG, gF_sL, gG_sA, gG_sF, gG_sL, gG_sGe, gG_sG_ne, gL_sA, gL_sF, gL_sG, gL_sLe, gL_sL_ne, u1f_eq, u1f_ne, bnd_iff, not_false_eq_true, Nat.reduceEqDiff]
      · rw [M68.2.1 49 (by decide), hd5]
        simp only [gA_sA, gA_sA_ne, gA_sF, gA_sG, gA_sL, gF_sA, gF_sF, gF_sF_ne, gF_sG, gF_sL, gG_sA, gG_sF, gG_sL, gG_sGe, gG_sG_ne, gL_sA, gL_sF, gL_sG, gL_sLe, gL_sL_ne, u1f_eq, u1f_ne, bnd_iff, not_false_eq_true, Nat.reduceEqDiff]
      · rw [M68.2.1 50 (by decide), hd5]
        simp only [gA_sA, gA_sA_ne, gA_sF, gA_sG, gA_sL, gF_sA, gF_sF, gF_sF_ne, gF_sG, gF_sL, gG_sA, gG_sF, gG_sL, gG_sGe, gG_sG_ne, gL_sA, gL_sF, gL_sG, gL_sLe, gL_sL_ne, u1f_eq, u1f_ne, bnd_iff, not_false_eq_true, Nat.reduceEqDiff]
      · rw [M8.2.1 51 (by decide), hd7, f13]
        simp only [gA_sA, gA_sA_ne, gA_sF, gA_sG, gA_sL, gF_sA, gF_sF, gF_sF_ne, gF_sG, gF_sL, gG_sA, gG_sF, gG_sL, gG_sGe, gG_sG_ne, gL_sA, gL_sF, gL_sG, gL_sLe, gL_sL_ne, u1f_eq, u1f_ne, bnd_iff, not_false_eq_true, Nat.reduceEqDiff]
      · obtain ⟨y1, y2, y3⟩ := hk i hi
        obtain ⟨⟨m, m1, m2, m3, m4, m5⟩, m6⟩ := q2.2.2 i hi
        rw [M47.2.2.1 45 (by decide)] at y1
        rw [M47.2.2.1 46 (by decide)] at y2
        rw [M47.2.2.1 44 (by decide)] at y3
        refine ⟨⟨m, m1, m2, y1.trans m3, fun j hj => ?_, ?_⟩, y2.trans m6⟩
        · show nmSign (gA d8 59 (12 * i + j))
          rw [y3 j (by omega)]
          exact m4 j hj
        · rw [m5]
          congr 1
          exact keyN_cong m (fun j hj => (y3 j (by omega)).symm)
