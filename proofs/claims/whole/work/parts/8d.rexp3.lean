/-! The reference reads an exp, whole -/
section
variable {T : List Tk} {N : Nt} {here : Int32} {f t : Nat} {os : List Op} {v : List Vl} {tr : Nat × Nat}
theorem xr_opn (hk : (tk T t).1 = 40 ∨ (tk T t).1 = 126 ∨ (tk T t).1 = 45) (h : ¬ 40 ≤ opn os) : xrun T N here (f + 1) true os v tr t = xrun T N here f true (((if (tk T t).1 = 45 then 109 else (tk T t).1), t) :: os) v tr (t + 1) := by
  show (if true = true then _ else _) = _
  rw [if_pos rfl, if_pos hk, if_neg h]
theorem xr_full (hk : (tk T t).1 = 40 ∨ (tk T t).1 = 126 ∨ (tk T t).1 = 45) (h : 40 ≤ opn os) : xrun T N here (f + 1) true os v tr t = (true, t, os, v, tr) := by
  show (if true = true then _ else _) = _
  rw [if_pos rfl, if_pos hk, if_pos h]
theorem xr_none (hk : ¬ ((tk T t).1 = 40 ∨ (tk T t).1 = 126 ∨ (tk T t).1 = 45)) (h : xval T N here t = none) : xrun T N here (f + 1) true os v tr t = (true, t, os, v, tr) := by
  show (if true = true then _ else _) = _
  rw [if_pos rfl, if_neg hk, h]
theorem xr_some (hk : ¬ ((tk T t).1 = 40 ∨ (tk T t).1 = 126 ∨ (tk T t).1 = 45)) {x : Vl} (h : xval T N here t = some x) : xrun T N here (f + 1) true os v tr t = xrun T N here f false (stl 6 os (x :: v) (tro x tr t)).1 (stl 6 os (x :: v) (tro x tr t)).2.1 (stl 6 os (x :: v) (tro x tr t)).2.2 (t + 1) := by
  show (if true = true then _ else _) = _
  rw [if_pos rfl, if_neg hk, h]
theorem xr_close (hk : (tk T t).1 = 41) (h : 0 < parn os) : xrun T N here (f + 1) false os v tr t = xrun T N here f false (stl 6 (stl 1 os v tr).1.tail (stl 1 os v tr).2.1 (stl 1 os v tr).2.2).1 (stl 6 (stl 1 os v tr).1.tail (stl 1 os v tr).2.1 (stl 1 os v tr).2.2).2.1 (stl 6 (stl 1 os v tr).1.tail (stl 1 os v tr).2.1 (stl 1 os v tr).2.2).2.2 (t + 1) := by
  show (if false = true then _ else _) = _
  rw [if_neg Bool.false_ne_true, if_pos ⟨hk, h⟩]
theorem xr_bin (hk : ¬ ((tk T t).1 = 41 ∧ 0 < parn os)) (h : 0 < lev (tk T t).1 ∧ lev (tk T t).1 < 7) : xrun T N here (f + 1) false os v tr t = xrun T N here f true (((tk T t).1, t) :: (stl (lev (tk T t).1) os v tr).1) (stl (lev (tk T t).1) os v tr).2.1 (stl (lev (tk T t).1) os v tr).2.2 (t + 1) := by
  show (if false = true then _ else _) = _
  rw [if_neg Bool.false_ne_true, if_neg hk, if_pos h]
theorem xr_stop (hk : ¬ ((tk T t).1 = 41 ∧ 0 < parn os)) (h : ¬ (0 < lev (tk T t).1 ∧ lev (tk T t).1 < 7)) : xrun T N here (f + 1) false os v tr t = (false, t, os, v, tr) := by
  show (if false = true then _ else _) = _
  rw [if_neg Bool.false_ne_true, if_neg hk, if_neg h]
end
theorem sign_e {r : vmD} {t : Tk} (h : CurR r t) (hk : t.1 < 128) {s : Nat} (hs : 4 < s) (hs2 : s < 128) (h60 : ¬ s = 60) (h62 : ¬ s = 62) (Q : Int32 → vmD → Prop) : MO_isSign (nI s) r Q = Q (if t.1 = s then 1 else 0) r := by
  obtain ⟨h3, -, -, -, -, h6, -⟩ := h
  have k5 : rkd t.1 = 5 ↔ 4 < t.1 := by
    have : ∀ k, k < 128 → (rkd k = 5 ↔ 4 < k) := by decide +kernel
    exact this _ hk
  have kv : ∀ k, k < 128 → 4 < k → (rvl k = nI s ↔ k = s) := by
    intro k hk h4
    unfold rvl
    by_cases e1 : k = 60
    · rw [if_pos e1, e1]
      exact ⟨fun z => absurd ((nI_eq (a := 300) (by omega) (by omega)).mp z) (by omega), fun z => absurd z.symm h60⟩
    · rw [if_neg e1]
      by_cases e2 : k = 62
      · rw [if_pos e2, e2]
        exact ⟨fun z => absurd ((nI_eq (a := 301) (by omega) (by omega)).mp z) (by omega), fun z => absurd z.symm h62⟩
      · rw [if_neg e2]
        exact nI_eq (by omega) (by omega)
  unfold MO_isSign
  rw [h3]
  by_cases e : t.1 = s
  · rw [if_pos (k5.mpr (by omega)), h6 (by omega), if_pos ((kv t.1 hk (by omega)).mpr e), if_pos e]
  · rw [if_neg e]
    by_cases h4 : 4 < t.1
    · rw [if_pos (k5.mpr h4), h6 h4, if_neg (fun z => e ((kv t.1 hk h4).mp z))]
    · rw [if_neg (fun z => h4 (k5.mp z))]
theorem SR.lf {kf : Bool} {T : List Tk} {r r' : vmD} {os : List Op} {v : List Vl} {tr : Nat × Nat} (h : SR kf T r os v tr) (M : ModR LF [] r r') : SR kf T r' os v tr := by
  unfold SR at h ⊢
  rw [M.2.1 16 (by decide), M.2.1 18 (by decide), M.2.1 19 (by decide), M.2.1 8 (by decide), M.2.2.1 47 (by decide), M.2.2.1 48 (by decide), M.2.2.1 49 (by decide)]
  exact h
/-- what the reference's readers need of the state -/
def LnR (B : Nat → Nat) (n : Nat) (r : vmD) (T : List Tk) (N : Nt) (here : Int32) : Prop := SrcOk B n ∧ Lx B n T ∧ SrcR B n r ∧ FnR r N ∧ gF r 42 21 = here
theorem LnR.mod {B : Nat → Nat} {n : Nat} {F A : List Nat} {r r' : vmD} {T : List Tk} {N : Nt} {here : Int32} (h : LnR B n r T N here) (M : ModR F A r r') (hF : ¬ 1 ∈ F ∧ ¬ 13 ∈ F ∧ ¬ 21 ∈ F) (hA : ¬ 43 ∈ A ∧ ¬ 44 ∈ A ∧ ¬ 45 ∈ A ∧ ¬ 46 ∈ A) : LnR B n r' T N here := by
  obtain ⟨h0, h1, h2, h3, h4⟩ := h
  refine ⟨h0, h1, h2.mod M hF.1 hA.1, ?_, ?_⟩
  · unfold FnR at h3 ⊢
    rw [M.2.1 13 hF.2.1, M.2.2.1 44 hA.2.1, M.2.2.1 45 hA.2.2.1, M.2.2.1 46 hA.2.2.2]
    exact h3
  · rw [M.2.1 21 hF.2.2]
    exact h4
theorem nxR {B : Nat → Nat} {n : Nat} {r : vmD} {T : List Tk} {N : Nt} {here : Int32} (h : LnR B n r T N here) {t : Nat} (ht : t + 1 < T.length) (hC : CurR r (tk T t)) : ∃ r', (∀ Q : vmD → Prop, Q r' → MO_next r Q) ∧ CurR r' (tk T (t + 1)) ∧ ModR LF [] r r' := by
  obtain ⟨h0, h1, h2, h3, h4⟩ := h
  obtain ⟨q1, q2, q3, -⟩ := h1.2.2 t (by omega)
  obtain ⟨r', E, C, M⟩ := next_ok h0 h2 q2 hC.2.2.1
  exact ⟨r', E, by rw [(q3 ht).1]; exact C, M⟩
theorem refuseR {T : List Tk} {r : vmD} {t : Nat} (hC : CurR r (tk T t)) (h8 : gF r 42 8 = 0) (hk : (tk T t).1 < 128) : ∃ r', (∀ Q : Int32 → vmD → Prop, Q 0 r' → MO_refuse r Q) ∧ FltR r' T (rfc T t, t) ∧ ModR [8, 9] [] r r' := by
  obtain ⟨r', E, f8, f9, M, -⟩ := wrongR (ModR.refl [8, 9] [] r) h8 (by decide) (by decide) (nI (rfc T t)) (nI (tk T t).2.1)
  refine ⟨r', fun Q hQ => ?_, ⟨f8, f9⟩, M⟩
  have k0 : rkd (tk T t).1 = 0 ↔ (tk T t).1 = 1 := by
    have : ∀ k, k < 128 → (rkd k = 0 ↔ k = 1) := by decide +kernel
    exact this _ hk
  have e := E (fun a d => (a = 0 ∨ a = 1) ∧ Q a d) ⟨Or.inl rfl, hQ⟩
  unfold rfc at e
  unfold MO_refuse MO_refuse_13
  rw [hC.1, hC.2.1]
  by_cases z : (tk T t).1 = 1
  · rw [if_pos z] at e
    rw [if_pos (k0.mpr z)]
    exact e
  · rw [if_neg z] at e
    rw [if_neg (fun w => z (k0.mp w))]
    exact e
/-- an operand -/
theorem operR {B : Nat → Nat} {n : Nat} {kf : Bool} {T : List Tk} {N : Nt} {here : Int32} {r : vmD} {os : List Op} {v : List Vl} {tr : Nat × Nat} {t : Nat} (h : LnR B n r T N here) (ht : t < T.length) (hC : CurR r (tk T t)) (hS : SR kf T r os v tr) (hJ : XJ true os v tr t) : ∃ r', ModR RF RA r r' ∧ (match xval T N here t with | none => (∀ Q : Int32 → vmD → Prop, Q 0 r' → MO_operand (kb kf) r Q) ∧ FltR r' T (rfc T t, t) | some x => if kf = true ∧ x.2 = false then (∀ Q : Int32 → vmD → Prop, Q 0 r' → MO_operand (kb kf) r Q) ∧ FltR r' T (4, t) else (∀ Q : Int32 → vmD → Prop, Q 1 r' → MO_operand (kb kf) r Q) ∧ SR kf T r' (stl 7 os (x :: v) (tro x tr t)).1 (stl 7 os (x :: v) (tro x tr t)).2.1 (stl 7 os (x :: v) (tro x tr t)).2.2 ∧ CurR r' (tk T (t + 1))) := by
  have hLn := h
  obtain ⟨h0, h1, h2, h3, h4⟩ := h
  have hkd := tk_kd h1 t
  have hlen := hJ.1.len
  have hS8 := hS.2.2.2.1
  have kr : ∀ k, k < 128 → ((rkd k = 3 ↔ k = 3) ∧ (rkd k = 2 ↔ k = 2)) := by decide +kernel
  obtain ⟨kr3, kr2⟩ := kr _ hkd
  -- a value is taken
  have lay : ∀ (x : Vl) (y : Int32), 1 < (tk T t).1 → (kf = true → y = x.1 ∧ x.2 = true) → ∃ r', ModR RF RA r r' ∧ (∀ Q : Int32 → vmD → Prop, Q 1 r' → MO_operand_108 (kb kf) y r Q) ∧ SR kf T r' (stl 7 os (x :: v) (tro x tr t)).1 (stl 7 os (x :: v) (tro x tr t)).2.1 (stl 7 os (x :: v) (tro x tr t)).2.2 ∧ CurR r' (tk T (t + 1)) := by
    intro x y hk1 hy
    have ht1 := more h1 ht hk1
    have M1 : ModR RF RA r (sF (sA r 49 v.length y) 42 18 (nI (v.length + 1))) := ((ModR.refl RF RA r).sA (by decide) _ _).sF (by decide) _
    have C1 : CurR (sF (sA r 49 v.length y) 42 18 (nI (v.length + 1))) (tk T t) := by
      unfold CurR at hC ⊢
      simp only [gA_sA, gA_sA_ne, gA_sF, gA_sG, gA_sL, gF_sA, gF_sF, gF_sF_ne, gF_sG, gF_sL, gG_sA, gG_sF, gG_sL, gG_sGe, gG_sG_ne, gL_sA, gL_sF, gL_sG, gL_sLe, gL_sL_ne, u1f_eq, u1f_ne, bnd_iff, not_false_eq_true, Nat.reduceEqDiff]
      exact hC
    obtain ⟨r2, E2, C2, M2⟩ := nxR (hLn.mod M1 (by decide) (by decide)) ht1 C1
    have S1 : SR kf T (sF (sA r 49 v.length y) 42 18 (nI (v.length + 1))) os (x :: v) (tro x tr t) := by
      obtain ⟨s1, s2, s3, s8, s47, s48, s49⟩ := hS
      unfold SR
      simp only [gA_sA, gA_sA_ne, gA_sF, gA_sG, gA_sL, gF_sA, gF_sF, gF_sF_ne, gF_sG, gF_sL, gG_sA, gG_sF, gG_sL, gG_sGe, gG_sG_ne, gL_sA, gL_sF, gL_sG, gL_sLe, gL_sL_ne, u1f_eq, u1f_ne, bnd_iff, not_false_eq_true, Nat.reduceEqDiff]
      refine ⟨s1, rfl, s3, s8, s47, s48, fun z => ?_⟩
      obtain ⟨y1, y2⟩ := hy z
      obtain ⟨t0, h49⟩ := s49 z
      refine ⟨?_, ?_⟩
      · unfold tro
        rw [if_neg (fun q => by rw [y2] at q; exact absurd q.1 (by decide))]
        exact t0
      · rw [y1]
        have := Stk.push x.1 h49
        rw [map_len] at this
        exact this
    obtain ⟨r3, E3, S3, M3, G3⟩ := unaR (t := t + 1) os (x :: v) (tro x tr t) r2 (S1.lf M2) (hJ.val x)
    refine ⟨r3, (M1.trans (M2.mono (by decide) (by decide))).trans (M3.mono (by decide) (by decide)), fun Q hQ => ?_, S3, SR.cur (kf := kf) (T := T) C2 M3 G3⟩
    unfold MO_operand_108
    rw [hS.2.1]
    refine ⟨nI_in (by omega) (by omega), bnd_iff.mpr ?_⟩
    rw [gF_sA, hS.2.1, nI_clamp (by omega), nI_p1]
    refine bnd_iff.mpr ?_
    refine E2 _ ?_
    unfold MO_unaries
    exact E3 _ ⟨Or.inr rfl, hQ⟩
  have sg := sign_e hC hkd (s := 64) (by omega) (by omega) (by omega) (by omega)
  unfold xval
  by_cases c3 : (tk T t).1 = 3
  · simp only [if_pos c3, Bool.true_eq_false, and_false, if_false]
    obtain ⟨r', M, E, S, C⟩ := lay (nI (tk T t).2.2.2, true) (nI (tk T t).2.2.2) (by omega) (fun _ => ⟨rfl, rfl⟩)
    refine ⟨r', M, fun Q hQ => ?_, S, C⟩
    unfold MO_operand
    rw [hC.1, if_pos (kr3.mpr c3), hC.2.2.2.2.1 c3]
    exact bnd_iff.mpr (E Q hQ)
  simp only [if_neg c3]
  by_cases c2 : (tk T t).1 = 2
  · simp only [if_pos c2]
    obtain ⟨hg, hname⟩ := (h1.2.2 t ht).2.2.2.2.2.2.2.2 c2
    have hw : gG r 42 7 = wOfK (tk T t).2.2.2 := by
      rw [hC.2.2.2.2.2.2, if_pos c2]
    have start : ∀ Q : Int32 → vmD → Prop, (if (if idN (tk T t).2.2.2 = 0 then (0 : Int32) else 1) = 0 then (MO_find (gF r 42 4) (gF r 42 5) r fun r_17 d_16 => if r_17 < 0 then (if kb kf = 0 then (MO_operand_85 (kb kf) r_17 d_16 Q) else (MO_wrong 4 (gF d_16 42 4) d_16 fun r_24 d_23 => (r_24 = 0 ∨ r_24 = 1) ∧ Q r_24 d_23)) else (MO_operand_85 (kb kf) r_17 d_16 Q)) else (MO_operand_103 r Q)) → MO_operand (kb kf) r Q := by
      intro Q hQ
      unfold MO_operand
      rw [hC.1, if_neg (fun z => c3 (kr3.mp z))]
      rw [show (64 : Int32) = nI 64 from rfl, sg, if_neg (show ¬ (tk T t).1 = 64 by omega), if_pos rfl, hC.1, if_pos (kr2.mpr c2), res_e, hw, res_K hg]
      exact hQ
    by_cases ci : 0 < idN (tk T t).2.2.2
    · simp only [if_pos ci]
      obtain ⟨r', E, F, M⟩ := refuseR hC hS8 hkd
      refine ⟨r', M.mono (by decide) (by decide), fun Q hQ => start Q ?_, F⟩
      rw [if_neg (show ¬ idN (tk T t).2.2.2 = 0 by omega), if_neg (by decide)]
      unfold MO_operand_103
      exact E _ ⟨Or.inl rfl, hQ⟩
    · simp only [if_neg ci]
      obtain ⟨m, m1, m2, m3, m4, m5, m6⟩ := hname (by omega)
      have start2 : ∀ Q : Int32 → vmD → Prop, (if fnd (tk T t).2.2.2 N < N.length then MO_operand_85 (kb kf) (nI (fnd (tk T t).2.2.2 N)) r Q else if kb kf = 0 then MO_operand_85 (kb kf) (-1) r Q else (MO_wrong 4 (nI (tk T t).2.1) r fun r_24 d_23 => (r_24 = 0 ∨ r_24 = 1) ∧ Q r_24 d_23)) → MO_operand (kb kf) r Q := by
        intro Q hQ
        refine start Q ?_
        rw [if_pos (show idN (tk T t).2.2.2 = 0 by omega), if_pos rfl, hC.2.1, hC.2.2.2.1, m3]
        refine findR h0 h2 h3 m1 m2 m4 m5 _ ?_
        rw [← m6]
        have hN2 := h3.2.1
        by_cases z : fnd (tk T t).2.2.2 N < N.length
        · rw [if_pos z] at hQ
          rw [if_pos z, if_neg (nI_pos (by omega))]
          exact hQ
        · rw [if_neg z] at hQ
          rw [if_neg z, if_pos (by decide), hC.2.1]
          exact hQ
      by_cases z : fnd (tk T t).2.2.2 N < N.length
      · simp only [dif_pos z, Bool.true_eq_false, and_false, if_false]
        have hN2 := h3.2.1
        have hv := (h3.2.2 _ z).2
        obtain ⟨r', M, E, S, C⟩ := lay ((N[fnd (tk T t).2.2.2 N]).2, true) ((N[fnd (tk T t).2.2.2 N]).2) (by omega) (fun _ => ⟨rfl, rfl⟩)
        refine ⟨r', M, fun Q hQ => start2 Q ?_, S, C⟩
        rw [if_pos z]
        unfold MO_operand_85 MO_operand_99
        rw [if_neg (nI_pos (by omega))]
        refine ⟨nI_in (by omega) (by omega), bnd_iff.mpr ?_⟩
        rw [nI_clamp (by omega), hv]
        exact E Q hQ
      · simp only [dif_neg z]
        by_cases k : kf = true
        · simp only [k, true_and, if_true]
          obtain ⟨r', E, f8, f9, M, -⟩ := wrongR (ModR.refl RF RA r) hS8 (by decide) (by decide) 4 (nI (tk T t).2.1)
          refine ⟨r', M, fun Q hQ => ?_, f8, f9⟩
          rw [← k]
          refine start2 Q ?_
          rw [if_neg z, k, if_neg (by decide)]
          exact E _ ⟨Or.inl rfl, hQ⟩
        · have kf' : kf = false := by rw [← Bool.not_eq_true]; exact k
          simp only [kf', Bool.false_eq_true, false_and, if_false]
          obtain ⟨r', M, E, S, C⟩ := lay ((0 : Int32), false) 0 (by omega) (fun q => absurd q k)
          rw [kf'] at E S
          refine ⟨r', M, fun Q hQ => ?_, S, C⟩
          rw [← kf']
          refine start2 Q ?_
          rw [if_neg z, kf', if_pos (by decide)]
          unfold MO_operand_85 MO_operand_99
          rw [if_pos (by decide)]
          exact E Q hQ
  simp only [if_neg c2]
  by_cases c64 : (tk T t).1 = 64
  · simp only [if_pos c64, Bool.true_eq_false, and_false, if_false]
    obtain ⟨r', M, E, S, C⟩ := lay (here, true) here (by omega) (fun _ => ⟨rfl, rfl⟩)
    refine ⟨r', M, fun Q hQ => ?_, S, C⟩
    unfold MO_operand
    rw [hC.1, if_neg (fun z => c3 (kr3.mp z)), show (64 : Int32) = nI 64 from rfl, sg, if_pos c64, if_neg (by decide), h4]
    exact bnd_iff.mpr (E Q hQ)
  · simp only [if_neg c64]
    obtain ⟨r', E, F, M⟩ := refuseR hC hS8 hkd
    refine ⟨r', M.mono (by decide) (by decide), fun Q hQ => ?_, F⟩
    unfold MO_operand
    rw [hC.1, if_neg (fun z => c3 (kr3.mp z)), show (64 : Int32) = nI 64 from rfl, sg, if_neg c64, if_pos rfl, hC.1, if_neg (fun z => c2 (kr2.mp z))]
    unfold MO_operand_103
    exact E _ ⟨Or.inl rfl, hQ⟩
