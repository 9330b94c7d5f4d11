/-! The class reads an exp, whole -/
abbrev Fl : Type := Nat × Nat × Nat
def FltC (c : vmD) (f : Fl) : Prop := gF c 21 0 = nI f.1 ∧ gF c 21 1 = nI f.2.1 ∧ gF c 21 2 = nI f.2.2 ∧ f.1 < 65536 ∧ f.2.1 < 65536 ∧ f.2.2 < 65536
def addF (f : Fl) (l p k : Nat) : Fl := if f.2.2 = 0 ∨ p < f.2.1 ∨ (p = f.2.1 ∧ k < f.2.2) then (l, p, k) else f
abbrev FF : List (Nat × Nat) := [(21, 0), (21, 1), (21, 2)]
theorem addC {c : vmD} {f : Fl} (h : FltC c f) {l p k : Nat} (hl : l < 65536) (hp : p < 65536) (hk : k < 65536) : ∃ c', (∀ Q : vmD → Prop, Q c' → Faults_add (nI l) (nI p) (nI k) c Q) ∧ FltC c' (addF f l p k) ∧ ModC FF [] [] c c' := by
  obtain ⟨h1, h2, h3, h4, h5, h6⟩ := h
  have a0 : nI f.2.2 = 0 ↔ f.2.2 = 0 := nI_eq (b := 0) (by omega) (by omega)
  have a1 : nI p < nI f.2.1 ↔ p < f.2.1 := nI_ltI (by omega) (by omega)
  have a2 : nI p = nI f.2.1 ↔ p = f.2.1 := nI_eq (by omega) (by omega)
  have a3 : nI k < nI f.2.2 ↔ k < f.2.2 := nI_ltI (by omega) (by omega)
  by_cases e : f.2.2 = 0 ∨ p < f.2.1 ∨ (p = f.2.1 ∧ k < f.2.2)
  · have M : ModC FF [] [] c (sF (sF (sF c 21 0 (nI l)) 21 1 (nI p)) 21 2 (nI k)) := (((ModC.refl FF [] [] c).sF (by decide) _).sF (by decide) _).sF (by decide) _
    refine ⟨_, fun Q hQ => ?_, ?_, M⟩
    · have h31 : Faults_add_31 (nI l) (nI p) (nI k) c Q := by
        unfold Faults_add_31
        exact bnd_iff.mpr (bnd_iff.mpr (bnd_iff.mpr hQ))
      unfold Faults_add
      rw [h3, h2]
      by_cases e0 : f.2.2 = 0
      · rw [if_pos (a0.mpr e0)]
        exact h31
      · rw [if_neg (fun z => e0 (a0.mp z))]
        by_cases e1 : p < f.2.1
        · rw [if_pos (a1.mpr e1)]
          exact h31
        · rw [if_neg (fun z => e1 (a1.mp z))]
          have e2 := (e.resolve_left e0).resolve_left e1
          rw [if_pos (a2.mpr e2.1), if_pos (a3.mpr e2.2)]
          exact h31
    · unfold addF
      rw [if_pos e]
      refine ⟨?_, ?_, ?_, hl, hp, hk⟩ <;> simp only [gA_sA, gA_sA_ne, gA_sF, gA_sG, gA_sL, gF_sA, gF_sF, gF_sF_ne, gF_sG, gF_sL, gG_sA, gG_sF, gG_sL, gG_sGe, gG_sG_ne, gL_sA, gL_sF, gL_sG, gL_sLe, gL_sL_ne, u1f_eq, u1f_ne, bnd_iff, not_false_eq_true, Nat.reduceEqDiff]
  · refine ⟨c, fun Q hQ => ?_, ?_, ModC.refl _ _ _ _⟩
    · unfold Faults_add
      rw [h3, h2, if_neg (fun z => e (Or.inl (a0.mp z))), if_neg (fun z => e (Or.inr (Or.inl (a1.mp z))))]
      by_cases e2 : p = f.2.1
      · rw [if_pos (a2.mpr e2), if_neg (fun z => e (Or.inr (Or.inr ⟨e2, a3.mp z⟩)))]
        exact hQ
      · rw [if_neg (fun z => e2 (a2.mp z))]
        exact hQ
    · unfold addF
      rw [if_neg e]
      exact ⟨h1, h2, h3, h4, h5, h6⟩
theorem TkC.mod {F : List (Nat × Nat)} {A L : List Nat} {c c' : vmD} {T : List Tk} (h : TkC c T) (M : ModC F A L c c') (h1 : ¬ (24, 5) ∈ F) (h2 : ¬ 25 ∈ A) (h3 : ¬ 26 ∈ A) (h4 : ¬ 27 ∈ L) : TkC c' T := by
  unfold TkC at h ⊢
  rw [M.1 24 5 h1, M.2.1 25 h2, M.2.1 26 h3, M.2.2.1 27 h4]
  exact h
theorem FnC.mod {F : List (Nat × Nat)} {A L : List Nat} {c c' : vmD} {N : Nt} (h : FnC c N) (M : ModC F A L c c') (h1 : ¬ (3, 6) ∈ F) (h2 : ¬ 8 ∈ A) (h3 : ¬ 7 ∈ L) : FnC c' N := by
  unfold FnC at h ⊢
  rw [M.1 3 6 h1, M.2.1 8 h2, M.2.2.1 7 h3]
  exact h
theorem CC.mod {F : List (Nat × Nat)} {A L : List Nat} {c c' : vmD} (h : CC c) (M : ModC F A L c c') (h1 : ¬ 16 ∈ A) (h2 : ¬ 17 ∈ A) (h3 : ¬ 18 ∈ A) (h4 : ¬ 4 ∈ L) : CC c' := by
  unfold CC at h ⊢
  rw [M.2.1 16 h1, M.2.1 17 h2, M.2.1 18 h3, M.2.2.1 4 h4]
  exact h
theorem FltC.mod {F : List (Nat × Nat)} {A L : List Nat} {c c' : vmD} {f : Fl} (h : FltC c f) (M : ModC F A L c c') (h1 : ¬ (21, 0) ∈ F) (h2 : ¬ (21, 1) ∈ F) (h3 : ¬ (21, 2) ∈ F) : FltC c' f := by
  unfold FltC at h ⊢
  rw [M.1 21 0 h1, M.1 21 1 h2, M.1 21 2 h3]
  exact h
/-- what the class's readers need of the state -/
def LnC (B : Nat → Nat) (n : Nat) (c : vmD) (T : List Tk) (N : Nt) (ln : Nat) : Prop := SrcOk B n ∧ Lx B n T ∧ TkC c T ∧ FnC c N ∧ CC c ∧ gF c 24 6 = nI ln ∧ ln < 65536
theorem LnC.mod {B : Nat → Nat} {n : Nat} {F : List (Nat × Nat)} {A L : List Nat} {c c' : vmD} {T : List Tk} {N : Nt} {ln : Nat} (h : LnC B n c T N ln) (M : ModC F A L c c') (hF : ¬ (24, 5) ∈ F ∧ ¬ (3, 6) ∈ F ∧ ¬ (24, 6) ∈ F) (hA : ¬ 25 ∈ A ∧ ¬ 26 ∈ A ∧ ¬ 8 ∈ A ∧ ¬ 16 ∈ A ∧ ¬ 17 ∈ A ∧ ¬ 18 ∈ A) (hL : ¬ 27 ∈ L ∧ ¬ 7 ∈ L ∧ ¬ 4 ∈ L) : LnC B n c' T N ln := by
  obtain ⟨h0, h1, h2, h3, h4, h5, h6⟩ := h
  refine ⟨h0, h1, h2.mod M hF.1 hA.1 hA.2.1 hL.1, h3.mod M hF.2.1 hA.2.2.1 hL.2.1, h4.mod M hA.2.2.2.1 hA.2.2.2.2.1 hA.2.2.2.2.2 hL.2.2, ?_, h6⟩
  rw [M.1 24 6 hF.2.2]
  exact h5
def rfc (T : List Tk) (t : Nat) : Nat := if (tk T t).1 = 1 then 1 else 2
theorem tk_pl {B : Nat → Nat} {n : Nat} {T : List Tk} (h : SrcOk B n) (hL : Lx B n T) (t : Nat) : (tk T t).2.1 < 65536 := by
  have hn := h.1
  by_cases e : t < T.length
  · have := (hL.2.2 t e).2.2.2.2.2.1
    omega
  · rw [tk_out (by omega)]
    show 0 < 65536
    omega
theorem tk_kd {B : Nat → Nat} {n : Nat} {T : List Tk} (hL : Lx B n T) (t : Nat) : (tk T t).1 < 128 := by
  by_cases e : t < T.length
  · exact (hL.2.2 t e).2.2.2.2.2.2.1
  · rw [tk_out (by omega)]
    show 0 < 128
    omega
theorem refuseC {B : Nat → Nat} {n : Nat} {c : vmD} {T : List Tk} {N : Nt} {ln : Nat} (h : LnC B n c T N ln) {f : Fl} (hF : FltC c f) {t : Nat} (ht : t < 2 ^ 31) : ∃ c', (∀ Q : vmD → Prop, Q c' → Tokens_refuse (nI t) c Q) ∧ FltC c' (addF f ln (tk T t).2.1 (rfc T t)) ∧ ModC FF [] [] c c' := by
  obtain ⟨h0, h1, h2, h3, h4, h5, h6⟩ := h
  have hp := tk_pl h0 h1 t
  have hk := tk_kd h1 t
  obtain ⟨c', E, F', M⟩ := addC hF (l := ln) (p := (tk T t).2.1) (k := rfc T t) h6 hp (by unfold rfc; split <;> omega)
  refine ⟨c', fun Q hQ => ?_, F', M⟩
  have e := E Q hQ
  unfold Tokens_refuse Tokens_refuse_27
  rw [placeC h2 ht, kindC h2 ht, h5]
  unfold rfc at e
  by_cases z : (tk T t).1 = 1
  · rw [if_pos z] at e
    rw [if_pos (show nI (tk T t).1 = 1 by rw [z]; rfl)]
    exact e
  · rw [if_neg z] at e
    rw [if_neg (show ¬ nI (tk T t).1 = 1 from fun w => z ((nI_eq (b := 1) (by omega) (by omega)).mp w))]
    exact e
theorem blameC {B : Nat → Nat} {n : Nat} {c : vmD} {T : List Tk} {N : Nt} {ln : Nat} (h : LnC B n c T N ln) {f : Fl} (hF : FltC c f) {t k : Nat} (ht : t < 2 ^ 31) (hk : k < 65536) : ∃ c', (∀ Q : vmD → Prop, Q c' → Tokens_blame (nI t) (nI k) c Q) ∧ FltC c' (addF f ln (tk T t).2.1 k) ∧ ModC FF [] [] c c' := by
  obtain ⟨h0, h1, h2, h3, h4, h5, h6⟩ := h
  have hp := tk_pl h0 h1 t
  obtain ⟨c', E, F', M⟩ := addC hF (l := ln) (p := (tk T t).2.1) (k := k) h6 hp hk
  refine ⟨c', fun Q hQ => ?_, F', M⟩
  unfold Tokens_blame
  rw [placeC h2 ht, h5]
  exact E Q hQ
theorem holdC {c : vmD} {here : Int32} {os : List Op} {v : List Vl} {tr : Nat × Nat} (hX : XC c here os v tr) {k t : Nat} (hl : os.length < 320) (hk : isO k = false) : ∃ c', (∀ Q : vmD → Prop, Q c' → Expression_hold (nI k) (nI t) c Q) ∧ XC c' here ((k, t) :: os) v tr ∧ ModC XF XA [] c c' := by
  obtain ⟨x1, x2, x3, x4, x5, x6, x7, x8, x9, x10, x11, x12⟩ := hX
  have M : ModC XF XA [] c (sF (sA (sA c 29 os.length (nI k)) 30 os.length (nI t)) 28 6 (nI (os.length + 1))) := (((ModC.refl XF XA [] c).sA (by decide) _ _).sA (by decide) _ _).sF (by decide) _
  refine ⟨_, fun Q hQ => ?_, ?_, M⟩
  · unfold Expression_hold
    rw [x1, if_neg (nI_pos (by omega)), if_pos (show nI os.length < 320 from nI_lt (b := 320) hl (by omega))]
    refine ⟨nI_in hl (by omega), bnd_iff.mpr ?_⟩
    rw [gF_sA, x1]
    refine ⟨nI_in hl (by omega), bnd_iff.mpr (bnd_iff.mpr ?_)⟩
    rw [gF_sA, gF_sA, x1, nI_clamp (by omega), nI_p1]
    exact hQ
  · have o1 : opn ((k, t) :: os) = opn os := by
      show (if isO k = true then 1 else 0) + opn os = _
      rw [hk, if_neg Bool.false_ne_true, Nat.zero_add]
    have p1 : parn ((k, t) :: os) = parn os := by
      show (if k = 40 then 1 else 0) + parn os = _
      have : ¬ k = 40 := by
        rintro rfl
        revert hk
        decide
      rw [if_neg this, Nat.zero_add]
    unfold XC
    rw [o1, p1]
    simp only [gA_sA, gA_sA_ne, gA_sF, gA_sG, gA_sL, gF_sA, gF_sF, gF_sF_ne, gF_sG, gF_sL, gG_sA, gG_sF, gG_sL, gG_sGe, gG_sG_ne, gL_sA, gL_sF, gL_sG, gL_sLe, gL_sL_ne, u1f_eq, u1f_ne, bnd_iff, not_false_eq_true, Nat.reduceEqDiff]
    refine ⟨rfl, x2, x3, x4, x5, x6, x7, x8, ?_, ?_, x11, x12⟩
    · have := x9.push (nI k)
      rw [map_len] at this
      exact this
    · have := x10.push (nI t)
      rw [map_len] at this
      exact this
theorem openC {c : vmD} {here : Int32} {os : List Op} {v : List Vl} {tr : Nat × Nat} (hX : XC c here os v tr) {k t : Nat} (hl : os.length < 320) (hk : k = 40 ∨ k = 126 ∨ k = 45) : ∃ c', (∀ Q : Int32 → vmD → Prop, Q (if 40 ≤ opn os then 0 else 1) c' → Expression_open (nI k) (nI t) c Q) ∧ (40 ≤ opn os → c' = c) ∧ (¬ 40 ≤ opn os → XC c' here (((if k = 45 then 109 else k), t) :: os) v tr) ∧ ModC XF XA [] c c' := by
  have hol := opn_le os
  by_cases h40 : 40 ≤ opn os
  · refine ⟨c, fun Q hQ => ?_, fun _ => rfl, fun z => absurd h40 z, ModC.refl _ _ _ _⟩
    unfold Expression_open
    rw [hX.2.2.1, if_neg (show ¬ nI (opn os) < 40 from nI_nlt (b := 40) h40 (by omega))]
    rw [if_pos h40] at hQ
    exact hQ
  · obtain ⟨x1, x2, x3, x4, x5, x6, x7, x8, x9, x10, x11, x12⟩ := hX
    have hpl := parn_le os
    have hkd : isO (if k = 45 then 109 else k) = true := by
      rcases hk with rfl | rfl | rfl <;> decide
    have hpar : (if (if k = 45 then 109 else k) = 40 then 1 else 0) = (if k = 40 then 1 else 0) := by
      rcases hk with rfl | rfl | rfl <;> decide
    obtain ⟨k', hk'⟩ : ∃ k', k' = (if k = 45 then 109 else k) := ⟨_, rfl⟩
    have M : ModC XF XA [] c (sF (sA (sA (sF (sF c 28 8 (nI (opn os + 1))) 28 9 (nI (parn os + (if k = 40 then 1 else 0)))) 29 os.length (nI k')) 30 os.length (nI t)) 28 6 (nI (os.length + 1))) := (((((ModC.refl XF XA [] c).sF (by decide) _).sF (by decide) _).sA (by decide) _ _).sA (by decide) _ _).sF (by decide) _
    refine ⟨_, fun Q hQ => ?_, fun z => absurd z h40, fun _ => ?_, M⟩
    · rw [if_neg h40] at hQ
      have h54 : Expression_open_54 (nI t) (nI k') (sF (sF c 28 8 (nI (opn os + 1))) 28 9 (nI (parn os + (if k = 40 then 1 else 0)))) Q := by
        unfold Expression_open_54 Expression_hold
        have q6 : gF (sF (sF c 28 8 (nI (opn os + 1))) 28 9 (nI (parn os + (if k = 40 then 1 else 0)))) 28 6 = nI os.length := by
          rw [gF_sF, u1f_ne _ _ (by decide), gF_sF, u1f_ne _ _ (by decide), x1]
        rw [q6, if_neg (nI_pos (by omega)), if_pos (show nI os.length < 320 from nI_lt (b := 320) hl (by omega))]
        refine ⟨nI_in hl (by omega), bnd_iff.mpr ?_⟩
        rw [gF_sA, q6]
        refine ⟨nI_in hl (by omega), bnd_iff.mpr (bnd_iff.mpr ?_)⟩
        rw [gF_sA, gF_sA, q6, nI_clamp (by omega), nI_p1]
        exact hQ
      have h37 : ∀ s0 : Nat, s0 = (if k = 40 then 1 else 0) → Expression_open_37 (nI k) (nI t) (nI s0) (nI (parn os)) (sF c 28 8 (nI (opn os + 1))) Q := by
        intro s0 hs
        unfold Expression_open_37
        refine bnd_iff.mpr ?_
        rw [nI_add, hs]
        have c45 : nI k = 45 ↔ k = 45 := nI_eq (b := 45) (by omega) (by omega)
        by_cases z : k = 45
        · rw [if_pos (c45.mpr z)]
          rw [if_pos z] at hk'
          rw [hk'] at h54
          exact h54
        · rw [if_neg (fun w => z (c45.mp w))]
          rw [if_neg z] at hk'
          rw [hk'] at h54
          exact h54
      unfold Expression_open
      rw [x3, if_pos (show nI (opn os) < 40 from nI_lt (b := 40) (by omega) (by omega)), nI_p1]
      refine bnd_iff.mpr ?_
      rw [gF_sF, u1f_ne _ _ (by decide), x4]
      have c40 : nI k = 40 ↔ k = 40 := nI_eq (b := 40) (by omega) (by omega)
      by_cases z : k = 40
      · rw [if_pos (c40.mpr z)]
        exact h37 1 (by rw [if_pos z])
      · rw [if_neg (fun w => z (c40.mp w))]
        exact h37 0 (by rw [if_neg z])
    · rw [← hk']
      rw [← hk'] at hkd hpar
      have o1 : opn ((k', t) :: os) = opn os + 1 := by
        show (if isO k' = true then 1 else 0) + opn os = _
        rw [if_pos hkd]
        omega
      have p1 : parn ((k', t) :: os) = parn os + (if k = 40 then 1 else 0) := by
        show (if k' = 40 then 1 else 0) + parn os = _
        rw [hpar]
        omega
      unfold XC
      rw [o1, p1]
      simp only [gA_sA, gA_sA_ne, gA_sF, gA_sG, gA_sL, gF_sA, gF_sF, gF_sF_ne, gF_sG, gF_sL, gG_sA, gG_sF, gG_sL, gG_sGe, gG_sG_ne, gL_sA, gL_sF, gL_sG, gL_sLe, gL_sL_ne, u1f_eq, u1f_ne, bnd_iff, not_false_eq_true, Nat.reduceEqDiff]
      refine ⟨rfl, x2, trivial, trivial, x5, x6, x7, x8, ?_, ?_, x11, x12⟩
      · have := x9.push (nI k')
        rw [map_len] at this
        exact this
      · have := x10.push (nI t)
        rw [map_len] at this
        exact this
theorem closeC {c : vmD} {here : Int32} {t : Nat} {os : List Op} {v : List Vl} {tr : Nat × Nat} (hX : XC c here ((40, t) :: os) v tr) (hl : os.length < 320) : ∃ c', (∀ Q : vmD → Prop, Q c' → Expression_close c Q) ∧ XC c' here os v tr ∧ ModC XF XA [] c c' := by
  obtain ⟨x1, x2, x3, x4, x5, x6, x7, x8, x9, x10, x11, x12⟩ := hX
  have hol := opn_le os
  have hpl := parn_le os
  have o1 : opn ((40, t) :: os) = opn os + 1 := by
    show (if isO 40 = true then 1 else 0) + opn os = _
    rw [if_pos (by decide)]
    omega
  have p1 : parn ((40, t) :: os) = parn os + 1 := by
    show (if (40 : Nat) = 40 then 1 else 0) + parn os = _
    rw [if_pos rfl]
    omega
  rw [o1] at x3
  rw [p1] at x4
  have M : ModC XF XA [] c (sF (sF (sF c 28 6 (nI os.length)) 28 9 (nI (parn os))) 28 8 (nI (opn os))) := (((ModC.refl XF XA [] c).sF (by decide) _).sF (by decide) _).sF (by decide) _
  refine ⟨_, fun Q hQ => ?_, ?_, M⟩
  · unfold Expression_close
    rw [x1, show nI ((40, t) :: os).length - 1 = nI os.length from nI_pred _]
    refine bnd_iff.mpr ?_
    rw [gF_sF, u1f_ne _ _ (by decide), x4, nI_pred]
    refine bnd_iff.mpr ?_
    rw [gF_sF, u1f_ne _ _ (by decide), gF_sF, u1f_ne _ _ (by decide), x3, nI_pred]
    exact bnd_iff.mpr hQ
  · unfold XC
    simp only [gA_sA, gA_sA_ne, gA_sF, gA_sG, gA_sL, gF_sA, gF_sF, gF_sF_ne, gF_sG, gF_sL, gG_sA, gG_sF, gG_sL, gG_sGe, gG_sG_ne, gL_sA, gL_sF, gL_sG, gL_sLe, gL_sL_ne, u1f_eq, u1f_ne, bnd_iff, not_false_eq_true, Nat.reduceEqDiff]
    exact ⟨trivial, x2, trivial, trivial, x5, x6, x7, x8, x9.2, x10.2, x11, x12⟩
theorem takeC {B : Nat → Nat} {n : Nat} {c : vmD} {T : List Tk} {N : Nt} {ln : Nat} (h : LnC B n c T N ln) {here : Int32} {os : List Op} {v : List Vl} {tr : Nat × Nat} (hX : XC c here os v tr) (hl : v.length < 320) {t : Nat} (ht : t < T.length) : ∃ c', (∀ Q : Int32 → vmD → Prop, Q (match xval T N here t with | none => 0 | some _ => 1) c' → Expression_takeValue (nI (tk T t).1) (nI t) c Q) ∧ (match xval T N here t with | none => c' = c | some x => XC c' here os (x :: v) (tro x tr t)) ∧ ModC XF XA [] c c' := by
  obtain ⟨h0, h1, h2, h3, h4, h5, h6⟩ := h
  have hk := tk_kd h1 t
  have hTl := h1.2.1
  have ht31 : t < 2 ^ 31 := by omega
  obtain ⟨x1, x2, x3, x4, x5, x6, x7, x8, x9, x10, x11, x12⟩ := hX
  have ck : ∀ (m : Nat) (M : Int32), M = nI m → m < 128 → (nI (tk T t).1 = M ↔ (tk T t).1 = m) := fun m M hM hm => by rw [hM]; exact nI_eq (by omega) (by omega)
  -- a value is laid down
  have lay : ∀ (d : vmD) (x : Vl) (tr' : Nat × Nat), ModC XF XA [] c d → gA d = gA c → (∀ f, ¬ f = 11 → ¬ f = 12 → gF d 28 f = gF c 28 f) → gF d 28 11 = nI tr'.1 → (¬ tr'.1 = 0 → gF d 28 12 = nI tr'.2) → tr'.1 < 6 → ∃ c', (∀ Q : Int32 → vmD → Prop, Q 1 c' → Expression_takeValue_123 x.1 (kb x.2) d Q) ∧ XC c' here os (x :: v) tr' ∧ ModC XF XA [] c c' := by
    intro d x tr' M hA hF h11 h12 h6
    have e7 : gF d 28 7 = nI v.length := by rw [hF 7 (by decide) (by decide), x2]
    refine ⟨sF (sA (sA d 31 v.length x.1) 32 v.length (kb x.2)) 28 7 (nI (v.length + 1)), fun Q hQ => ?_, ?_, ((M.sA (by decide) _ _).sA (by decide) _ _).sF (by decide) _⟩
    · unfold Expression_takeValue_123
      rw [e7, if_neg (nI_pos (by omega)), if_pos (show nI v.length < 320 from nI_lt (b := 320) hl (by omega))]
      refine ⟨nI_in hl (by omega), bnd_iff.mpr ?_⟩
      rw [gF_sA, e7]
      refine ⟨nI_in hl (by omega), bnd_iff.mpr (bnd_iff.mpr ?_)⟩
      rw [gF_sA, gF_sA, e7, nI_clamp (by omega), kb_and, nI_p1]
      exact hQ
    · unfold XC
      simp only [gA_sA, gA_sA_ne, gA_sF, gA_sG, gA_sL, gF_sA, gF_sF, gF_sF_ne, gF_sG, gF_sL, gG_sA, gG_sF, gG_sL, gG_sGe, gG_sG_ne, gL_sA, gL_sF, gL_sG, gL_sLe, gL_sL_ne, u1f_eq, u1f_ne, bnd_iff, not_false_eq_true, Nat.reduceEqDiff]
      rw [hF 6 (by decide) (by decide), hF 8 (by decide) (by decide), hF 9 (by decide) (by decide), hF 10 (by decide) (by decide), hA]
      refine ⟨x1, rfl, x3, x4, x5, h11, h12, h6, x9, x10, ?_, ?_⟩
      · have := x11.push x.1
        rw [map_len] at this
        exact this
      · have := x12.push (kb x.2)
        rw [map_len] at this
        exact this
  have plain : ∀ x : Vl, x.2 = true → ∃ c', (∀ Q : Int32 → vmD → Prop, Q 1 c' → Expression_takeValue_123 x.1 (kb x.2) c Q) ∧ XC c' here os (x :: v) (tro x tr t) ∧ ModC XF XA [] c c' := by
    intro x hx
    have e : tro x tr t = tr := by
      unfold tro
      rw [if_neg (fun z => by rw [hx] at z; exact absurd z.1 (by decide))]
    rw [e]
    exact lay c x tr (ModC.refl _ _ _ _) rfl (fun _ _ _ => rfl) x6 x7 x8
  unfold xval
  by_cases c3 : (tk T t).1 = 3
  · simp only [if_pos c3]
    obtain ⟨c', E, X, M⟩ := plain (nI (tk T t).2.2.2, true) rfl
    refine ⟨c', fun Q hQ => ?_, X, M⟩
    unfold Expression_takeValue
    refine bnd_iff.mpr ?_
    rw [c3, if_pos (show nI 3 = 3 from rfl), valueC h2 ht31]
    refine bnd_iff.mpr ?_
    rw [lN_i]
    exact E Q hQ
  simp only [if_neg c3]
  by_cases c2 : (tk T t).1 = 2
  · simp only [if_pos c2]
    obtain ⟨hg, -⟩ := (h1.2.2 t ht).2.2.2.2.2.2.2.2 c2
    have p12 : (38 : Nat) ^ 12 < 2 ^ 63 := by decide
    have hK := hg.2.1
    have start : ∀ Q : Int32 → vmD → Prop, (if (0 : Int32) < nI (idN (tk T t).2.2.2) then Q 0 c else Tokens_value (nI t) c fun r_20 d_19 => Names_find r_20 d_19 fun r_22 d_21 => if r_22 < 0 then (Expression_takeValue_78 (nI t) r_22 0 d_21 Q) else (Expression_takeValue_78 (nI t) r_22 1 d_21 Q)) → Expression_takeValue (nI (tk T t).1) (nI t) c Q := by
      intro Q hQ
      unfold Expression_takeValue
      refine bnd_iff.mpr ?_
      rw [c2, if_neg (show ¬ nI 2 = 3 by decide), if_pos (show nI 2 = 2 from rfl), valueC h2 ht31]
      exact idOfC h4 (by omega) _ hQ
    by_cases ci : 0 < idN (tk T t).2.2.2
    · simp only [if_pos ci]
      refine ⟨c, fun Q hQ => start Q ?_, rfl, ModC.refl _ _ _ _⟩
      rw [if_pos (show (0 : Int32) < nI (idN (tk T t).2.2.2) from nI_lt (a := 0) ci (by have := idN_lt (tk T t).2.2.2; omega))]
      exact hQ
    · simp only [if_neg ci]
      have start2 : ∀ Q : Int32 → vmD → Prop, (if fnd (tk T t).2.2.2 N < N.length then Expression_takeValue_78 (nI t) (nI (fnd (tk T t).2.2.2 N)) 1 c Q else Expression_takeValue_78 (nI t) (-1) 0 c Q) → Expression_takeValue (nI (tk T t).1) (nI t) c Q := by
        intro Q hQ
        refine start Q ?_
        rw [if_neg (show ¬ (0 : Int32) < nI (idN (tk T t).2.2.2) from nI_nlt (a := 0) (by omega) (by omega)), valueC h2 ht31]
        refine findC h3 hK _ ?_
        have hN200 := h3.2.1
        by_cases z : fnd (tk T t).2.2.2 N < N.length
        · rw [if_pos z] at hQ
          rw [if_pos z, if_neg (nI_pos (by omega))]
          exact hQ
        · rw [if_neg z] at hQ
          rw [if_neg z, if_pos (by decide)]
          exact hQ
      by_cases z : fnd (tk T t).2.2.2 N < N.length
      · simp only [dif_pos z]
        obtain ⟨c', E, X, M⟩ := plain ((N[fnd (tk T t).2.2.2 N]).2, true) rfl
        refine ⟨c', fun Q hQ => start2 Q ?_, X, M⟩
        rw [if_pos z]
        unfold Expression_takeValue_78
        rw [foundC h3 z, if_neg (by decide)]
        exact E Q hQ
      · simp only [dif_neg z]
        have go : ∀ Q, (if nI tr.1 = 0 then Expression_takeValue_112 0 0 (sF (sF c 28 11 4) 28 12 (nI t)) Q else Expression_takeValue_112 0 0 c Q) → Expression_takeValue (nI (tk T t).1) (nI t) c Q := by
          intro Q hQ
          refine start2 Q ?_
          rw [if_neg z]
          unfold Expression_takeValue_78
          rw [found1, if_pos rfl, x6]
          by_cases w : nI tr.1 = 0
          · rw [if_pos w] at hQ ⊢
            exact bnd_iff.mpr (bnd_iff.mpr hQ)
          · rw [if_neg w] at hQ ⊢
            exact hQ
        have c0 : nI tr.1 = 0 ↔ tr.1 = 0 := nI_eq (b := 0) (by omega) (by omega)
        by_cases w : tr.1 = 0
        · have e : tro ((0 : Int32), false) tr t = (4, t) := by
            unfold tro
            rw [if_pos ⟨rfl, w⟩]
          obtain ⟨c', E, X, M⟩ := lay (sF (sF c 28 11 4) 28 12 (nI t)) ((0 : Int32), false) (4, t) (((ModC.refl XF XA [] c).sF (by decide) _).sF (by decide) _) rfl (fun f a1 a2 => by rw [gF_sF, u1f_ne _ _ a2, gF_sF, u1f_ne _ _ a1]) (by rw [gF_sF, u1f_ne _ _ (by decide), gF_sF, u1f_eq]; rfl) (fun _ => by rw [gF_sF, u1f_eq]) (by show 4 < 6; omega)
          refine ⟨c', fun Q hQ => go Q ?_, by rw [e]; exact X, M⟩
          rw [if_pos (c0.mpr w)]
          exact E Q hQ
        · have e : tro ((0 : Int32), false) tr t = tr := by
            unfold tro
            rw [if_neg (fun q => w q.2)]
          obtain ⟨c', E, X, M⟩ := lay c ((0 : Int32), false) tr (ModC.refl _ _ _ _) rfl (fun _ _ _ => rfl) x6 x7 x8
          refine ⟨c', fun Q hQ => go Q ?_, by rw [e]; exact X, M⟩
          rw [if_neg (fun q => w (c0.mp q))]
          exact E Q hQ
  simp only [if_neg c2]
  by_cases c64 : (tk T t).1 = 64
  · simp only [if_pos c64]
    obtain ⟨c', E, X, M⟩ := plain (here, true) rfl
    refine ⟨c', fun Q hQ => ?_, X, M⟩
    unfold Expression_takeValue
    refine bnd_iff.mpr ?_
    rw [c64, if_neg (show ¬ nI 64 = 3 by decide), if_neg (show ¬ nI 64 = 2 by decide), if_pos (show nI 64 = 64 from rfl), x5]
    exact E Q hQ
  · simp only [if_neg c64]
    refine ⟨c, fun Q hQ => ?_, rfl, ModC.refl _ _ _ _⟩
    unfold Expression_takeValue
    refine bnd_iff.mpr ?_
    rw [if_neg (fun z => c3 ((ck 3 3 rfl (by omega)).mp z)), if_neg (fun z => c2 ((ck 2 2 rfl (by omega)).mp z)), if_neg (fun z => c64 ((ck 64 64 rfl (by omega)).mp z))]
    exact hQ
