/-! Operands: the reference reads one, whole -/
def tailP (d : vmD) (Q : Int32 → vmD → Prop) : Prop := MO_isSign 41 d fun r_14 d_13 =>
  if r_14 = 0 then
  (MO_refuse d_13 fun r_17 d_16 =>
  (r_17 = 0 ∨ r_17 = 1) ∧ Q r_17 d_16)
  else
  (MO_next d_13 fun d_18 =>
  MO_endsOperand d_18 fun r_20 d_19 =>
  if r_20 = 0 then
  (MO_refuse d_19 fun r_23 d_22 =>
  if r_23 = 0 then
  (Q 0 d_22)
  else
  (Q 1 d_22))
  else
  (Q 1 d_19))
theorem xrun_lt {B : Nat → Nat} {n : Nat} {T : List Tk} (hL : Lx B n T) {N : Nt} {here : Int32} : ∀ (f : Nat) (w : Bool) (os : List Op) (v : List Vl) (tr : Nat × Nat) (t : Nat), t < T.length → T.length ≤ t + f → (xrun T N here f w os v tr t).2.1 < T.length := by
  intro f
  induction f with
  | zero => intro w os v tr t ht hf; exact ht
  | succ f ih =>
    intro w os v tr t ht hf
    unfold xrun
    split
    · split
      · split
        · exact ht
        · exact ih _ _ _ _ _ (more hL ht (by omega)) (by omega)
      · split
        · exact ht
        · rename_i x hx
          exact ih _ _ _ _ _ (more hL ht (xval_k hx)) (by omega)
    · split
      · rename_i k
        exact ih _ _ _ _ _ (more hL ht (by omega)) (by omega)
      · split
        · rename_i k
          exact ih _ _ _ _ _ (more hL ht (lev_1 k.1)) (by omega)
        · exact ht
theorem exprLt {B : Nat → Nat} {n : Nat} {T : List Tk} (hL : Lx B n T) {N : Nt} {here : Int32} {q : Nat} (hq : q < T.length) : xat T N here q < T.length := xrun_lt hL _ _ _ _ _ _ hq (by omega)
theorem expTail {B : Nat → Nat} {n : Nat} {r : vmD} {T : List Tk} {N : Nt} {here : Int32} (hLn : LnR B n r T N here) {q l : Nat} (hq : q < T.length) (hC : CurR r (tk T q)) (h8 : gF r 42 8 = 0) (hcl : cl T 1 q = some l) : ∃ r' b, ModR RF RA r r' ∧ ((xok T N here q = true ∧ xat T N here q = l ∧ b = 1 ∧ CurR r' (tk T (l + 1)) ∧ gF r' 42 8 = 0) ∨ (¬ (xok T N here q = true ∧ xat T N here q = l) ∧ b = 0 ∧ FltR r' T (rfc T (xat T N here q), xat T N here q))) ∧ ∀ Q : Int32 → vmD → Prop, Q b r' → MO_expression 0 r fun r_11 d_10 => if r_11 = 0 then (Q 0 d_10) else tailP d_10 Q := by
  have hL := hLn.2.1
  have hl := hL.2.1
  obtain ⟨s1, s2, s3, s4⟩ := cl_some hL T.length 1 q (by omega) (by omega) hcl
  obtain ⟨r1, b1, M1, O1, E1⟩ := exprR (kf := false) hq hLn hC h8
  have hLn1 := hLn.mod M1 (by decide) (by decide)
  rcases O1 with ⟨-, k, -⟩ | ⟨o1, -, o2, o3, o4, -⟩ | ⟨o1, -, o2, o3⟩
  · cases k
  · have ha : xat T N here q < T.length := by
      have e := exprLt hL (N := N) (here := here) hq
      exact e
    have hx := cl_xat hL (N := N) (here := here) hq hcl o2 ha
    have hkd := tk_kd hL (xat T N here q)
    have sg41 := sign_e o3 hkd (s := 41) (by omega) (by omega) (by omega) (by omega)
    by_cases z : (tk T (xat T N here q)).1 = 41
    · have za := hx.mpr z
      obtain ⟨r2, E2, C2, M2⟩ := nxR hLn1 (show xat T N here q + 1 < T.length by omega) o3
      rw [za] at C2
      refine ⟨r2, 1, M1.trans (M2.mono (by decide) (by decide)), Or.inl ⟨o2, za, rfl, C2, ?_⟩, fun Q hQ => E1 _ ?_⟩
      · rw [M2.2.1 8 (by decide)]
        exact o4
      · rw [o1, if_neg (by decide)]
        unfold tailP
        rw [show (41 : Int32) = nI 41 from rfl, sg41, if_pos z, if_neg (by decide)]
        refine E2 _ ?_
        rw [endsR C2 (tk_kd hL _), s2, if_neg (by decide)]
        exact hQ
    · obtain ⟨r2, E2, F2, M2⟩ := refuseR o3 o4 hkd
      refine ⟨r2, 0, M1.trans (M2.mono (by decide) (by decide)), Or.inr ⟨fun w => z (hx.mp w.2), rfl, F2⟩, fun Q hQ => E1 _ ?_⟩
      rw [o1, if_neg (by decide)]
      unfold tailP
      rw [show (41 : Int32) = nI 41 from rfl, sg41, if_neg z, if_pos rfl]
      exact E2 _ ⟨Or.inl rfl, hQ⟩
  · refine ⟨r1, 0, M1, Or.inr ⟨fun w => o2 w.1, rfl, o3⟩, fun Q hQ => E1 _ ?_⟩
    rw [o1, if_pos rfl]
    exact hQ
theorem xat_reg {T : List Tk} {N : Nt} {here : Int32} {t : Nat} (ht : t < T.length) (h : 0 < nmI T t) : xok T N here t = false ∧ xat T N here t = t := by
  have h2 : (tk T t).1 = 2 := by
    by_cases z : (tk T t).1 = 2
    · exact z
    · unfold nmI at h
      rw [if_neg z] at h
      omega
  unfold nmI at h
  rw [if_pos h2] at h
  have hv : xval T N here t = none := by
    unfold xval
    rw [if_neg (by omega), if_pos h2, if_pos h]
  have e : xend T N here t = (true, t, [], [], (0, 0)) := by
    unfold xend
    rw [show T.length - t = (T.length - t - 1) + 1 by omega]
    exact xr_none (by omega) hv
  unfold xok xat
  rw [e]
  exact ⟨rfl, rfl⟩
theorem pl_t : ∀ i, i < 107 → (!(decide (0 < plT i)) || (decide (rkT (pOf i) = plT i) && (decide (rwT (pOf i) = 0) && (decide (0 < pOf i) && (decide (¬ pOf i = 30) && decide (¬ pOf i = 31)))))) = true := by decide +kernel
theorem pl_u : ∀ i, i < 107 → (!(decide (0 < pOf i)) || (decide (0 < plT i) || (decide (i = 15) || decide (i = 16)))) = true := by decide +kernel
theorem plcR {B : Nat → Nat} {n : Nat} {r : vmD} {T : List Tk} {N : Nt} {here : Int32} (hLn : LnR B n r T N here) {t i l : Nat} (ht : t < T.length) (hC : CurR r (tk T t)) (h8 : gF r 42 8 = 0) (hi : i < 2) (v51 : gA r 51 i = 0) (v53 : gA r 53 i = 0) (v54 : gA r 54 i = 0) (hc : clo T t = some l) : ∃ r' b, ModR ROF ROA r r' ∧ RO i r r' ∧ ((oOk T N here t = true ∧ b = 1 ∧ CurR r' (tk T (oNx T N here t)) ∧ gF r' 42 8 = 0 ∧ gF r' 42 28 = gF r 42 28 ∧ ROx r' i (oKd T t) (oNg T t) ∧ (∀ q, oFr T t = some q → gA r' 52 i = nI (tk T q).2.1)) ∨ (¬ oOk T N here t = true ∧ b = 0 ∧ FltR r' T (rfc T (oXa T N here t), oXa T N here t))) ∧ (b = 0 ∨ b = 1) ∧ ∀ Q : Int32 → vmD → Prop, Q b r' → MO_readPlace (nI i) r Q := by
  have hL := hLn.2.1
  have hl := hL.2.1
  obtain ⟨s0, s1, s2, s3, s4, s5⟩ := clo_some hL ht hc
  have hix : ixOk (nI i) 8 := nI_in (by omega) (by omega)
  have hic : (nI i).toNatClampNeg = i := nI_clamp (by omega)
  have monoL : ∀ {a b : vmD}, ModR LF [] a b → ModR ROF ROA a b := fun h => h.mono (by decide) (by decide)
  have monoX : ∀ {a b : vmD}, ModR RF RA a b → ModR ROF ROA a b := fun h => h.mono (by decide) (by decide)
  have keepL : ∀ {a b : vmD}, ModR LF [] a b → ∀ o, gA b o = gA a o := fun h o => h.2.2.1 o (by intro z; cases z)
  have keepX : ∀ {a b : vmD}, ModR RF RA a b → ∀ o, 50 ≤ o → o ≤ 54 → gA b o = gA a o := fun h o a1 a2 => h.2.2.1 o (by intro z; simp only [List.mem_cons, List.mem_nil_iff, or_false] at z; omega)
  have ht1 : t + 1 < T.length := by omega
  obtain ⟨r1, E1, C1, M1⟩ := nxR hLn ht1 hC
  have hLn1 := hLn.mod M1 (by decide) (by decide)
  have hkd1 := tk_kd hL (t + 1)
  have hkd2 := tk_kd hL (t + 2)
  have k2 : rkd (tk T (t + 1)).1 = 2 ↔ (tk T (t + 1)).1 = 2 := by
    have : ∀ k, k < 128 → (rkd k = 2 ↔ k = 2) := by decide +kernel
    exact this _ hkd1
  have en : oNx T N here t = l + 1 := by
    unfold oNx
    rw [hc]
  -- a place with an exp of its own
  have e290 : ∀ r2 : vmD, ModR LF [] r r2 → CurR r2 (tk T (t + 1)) → atS T t l = false → nearS T t = false → ∃ r' b, ModR ROF ROA r r' ∧ RO i r r' ∧ ((oOk T N here t = true ∧ b = 1 ∧ CurR r' (tk T (oNx T N here t)) ∧ gF r' 42 8 = 0 ∧ gF r' 42 28 = gF r 42 28 ∧ ROx r' i (oKd T t) (oNg T t) ∧ (∀ q, oFr T t = some q → gA r' 52 i = nI (tk T q).2.1)) ∨ (¬ oOk T N here t = true ∧ b = 0 ∧ FltR r' T (rfc T (oXa T N here t), oXa T N here t))) ∧ (b = 0 ∨ b = 1) ∧ ∀ Q : Int32 → vmD → Prop, Q b r' → MO_readPlace_290 (nI i) r2 Q := by
    intro r2 M2 C2 za zn
    have efr : oFr T t = some (t + 1) := by
      unfold oFr
      rw [hc]
      dsimp only
      rw [za, zn, if_neg Bool.false_ne_true, if_neg Bool.false_ne_true]
    have ekd : oKd T t = 35 := by
      unfold oKd
      rw [hc]
      dsimp only
      rw [za, zn, if_neg Bool.false_ne_true, if_neg Bool.false_ne_true]
    have eng : oNg T t = false := by
      unfold oNg
      rw [hc]
      dsimp only
      rw [zn, Bool.false_and, Bool.and_false]
    have eok : oOk T N here t = (xok T N here (t + 1) && decide (xat T N here (t + 1) = l)) := by
      unfold oOk
      rw [efr]
      dsimp only
      rw [hc]
    have exa : oXa T N here t = xat T N here (t + 1) := by
      unfold oXa
      rw [efr]
    rw [en, ekd, eng, eok, exa, efr, Bool.and_eq_true, decide_eq_true_eq]
    obtain ⟨r3, hr3⟩ : ∃ r3 : vmD, r3 = sA (sA r2 50 i 15) 52 i (nI (tk T (t + 1)).2.1) := ⟨_, rfl⟩
    have M3 : ModR [] [50, 52] r2 r3 := by
      rw [hr3]
      exact ((ModR.refl [] [50, 52] r2).sA (by decide) _ _).sA (by decide) _ _
    have C3 : CurR r3 (tk T (t + 1)) := C2.mod M3 (by decide) (by decide) (by decide) (by decide) (by decide) (by rw [hr3]; rfl)
    have M23 : ModR ROF ROA r r3 := (monoL M2).trans (M3.mono (by decide) (by decide))
    obtain ⟨r4, b, M4, O4, E4⟩ := expTail (hLn.mod M23 (by decide) (by decide)) ht1 C3 (by rw [M3.2.1 8 (by decide), M2.2.1 8 (by decide), h8]) s1
    refine ⟨r4, b, M23.trans (monoX M4), fun o j a1 a2 a3 => ?_, ?_, ?_, fun Q hQ => ?_⟩
    · rw [keepX M4 o a1 a2, hr3]
      have : o = 50 ∨ o = 52 ∨ (¬ o = 50 ∧ ¬ o = 52) := by omega
      rcases this with rfl | rfl | z
      · rw [gA_sA_ne _ _ _ (by decide), gA_sA, u1f_ne _ _ a3, keepL M2]
      · rw [gA_sA, u1f_ne _ _ a3, gA_sA_ne _ _ _ (by decide), keepL M2]
      · rw [gA_sA_ne _ _ _ z.2, gA_sA_ne _ _ _ z.1, keepL M2]
    · rcases O4 with ⟨o1, o2, o3, o4, o5⟩ | ⟨o1, o2, o3⟩
      · refine Or.inl ⟨⟨o1, o2⟩, o3, o4, o5, by rw [M4.2.1 28 (by decide), M3.2.1 28 (by decide), M2.2.1 28 (by decide)], ?_, fun q hq => ?_⟩
        · unfold ROx
          rw [keepX M4 50 (by omega) (by omega), keepX M4 51 (by omega) (by omega), keepX M4 53 (by omega) (by omega), keepX M4 54 (by omega) (by omega), M3.2.2.1 51 (by decide), M3.2.2.1 53 (by decide), M3.2.2.1 54 (by decide), keepL M2, keepL M2, keepL M2, v51, v53, v54, hr3, gA_sA_ne _ _ _ (by decide), gA_sA, u1f_eq]
          exact ⟨by decide, by decide, by decide, by decide⟩
        · cases hq
          rw [keepX M4 52 (by omega) (by omega), hr3, gA_sA, u1f_eq]
      · exact Or.inr ⟨o1, o2, o3⟩
    · rcases O4 with ⟨-, -, o3, -⟩ | ⟨-, o2, -⟩
      · exact Or.inr o3
      · exact Or.inl o2
    · unfold MO_readPlace_290
      rw [hic]
      refine ⟨hix, bnd_iff.mpr ⟨hix, bnd_iff.mpr ?_⟩⟩
      rw [gF_sA, C2.2.1, ← hr3]
      exact E4 Q hQ
  have pl0 : pOf 0 = 0 := by decide
  by_cases h2 : (tk T (t + 1)).1 = 2
  · obtain ⟨hg, -⟩ := (hL.2.2 (t + 1) ht1).2.2.2.2.2.2.2.2 h2
    have hw : gG r1 42 7 = wOfK (tk T (t + 1)).2.2.2 := by rw [C1.2.2.2.2.2.2, if_pos h2]
    have hnm : nmI T (t + 1) = idN (tk T (t + 1)).2.2.2 := by
      unfold nmI
      rw [if_pos h2]
    have hn := nmI_lt T (t + 1)
    obtain ⟨p1, p2⟩ := pl_K hg
    rw [← hnm] at p1 p2
    have ht2 : t + 2 < T.length := more hL ht1 (by omega)
    obtain ⟨r2, E2, C2, M2⟩ := nxR hLn1 ht2 C1
    have C2 : CurR r2 (tk T (t + 2)) := C2
    have M12 : ModR LF [] r r2 := M1.trans M2
    have hLn2 := hLn1.mod M2 (by decide) (by decide)
    have bl : l = t + 2 ↔ (tk T (t + 2)).1 = 41 := by
      constructor
      · intro z
        rw [← z]
        exact s2
      · intro z
        rw [cl_e ht1, if_neg (by omega), if_neg (by omega), if_neg (by omega), if_neg (by omega), cl_e (show t + 1 + 1 < T.length from ht2), if_neg (show ¬ (tk T (t + 2)).1 ≤ 1 by omega), if_pos (show (tk T (t + 2)).1 = 41 ∧ 1 = 1 from ⟨z, rfl⟩)] at s1
        split at s1
        · cases s1
          rfl
        · cases s1
    have hpt := pl_t _ hn
    have hpu := pl_u _ hn
    rw [Bool.or_eq_true, Bool.not_eq_true', decide_eq_false_iff_not, Bool.and_eq_true, Bool.and_eq_true, Bool.and_eq_true, Bool.and_eq_true, decide_eq_true_eq, decide_eq_true_eq, decide_eq_true_eq, decide_eq_true_eq, decide_eq_true_eq] at hpt
    rw [Bool.or_eq_true, Bool.or_eq_true, Bool.or_eq_true, Bool.not_eq_true', decide_eq_false_iff_not, decide_eq_true_eq, decide_eq_true_eq, decide_eq_true_eq] at hpu
    have sg41 := sign_e C2 hkd2 (s := 41) (by omega) (by omega) (by omega) (by omega)
    have sg43 := sign_e C2 hkd2 (s := 43) (by omega) (by omega) (by omega) (by omega)
    have sg45 := sign_e C2 hkd2 (s := 45) (by omega) (by omega) (by omega) (by omega)
    have plb : plT (nmI T (t + 1)) < 14 := by
      unfold plT
      repeat' split
      all_goals omega
    have cp : (0 : Int32) < nI (plT (nmI T (t + 1))) ↔ 0 < plT (nmI T (t + 1)) := nI_ltI (a := 0) (by omega) (by omega)
    -- the chain of names
    have st : ∀ Q : Int32 → vmD → Prop, MO_readPlace_104 (nI i) (nI (tk T (t + 1)).2.1) (wOfK (tk T (t + 1)).2.2.2) (nI (plT (nmI T (t + 1)))) r2 Q → MO_readPlace (nI i) r Q := by
      intro Q hQ
      rw [← p1] at hQ
      unfold MO_readPlace
      refine E1 _ ?_
      rw [C1.2.1, hw, C1.1]
      refine bnd_iff.mpr (bnd_iff.mpr ?_)
      rw [if_pos (k2.mpr h2)]
      unfold MO_readPlace_27
      rw [if_neg (by decide)]
      refine E2 _ ?_
      unfold plS at hQ
      have hq : ∀ (p : Prop) [Decidable p] (a b : Int32), MO_readPlace_104 (nI i) (nI (tk T (t + 1)).2.1) (wOfK (tk T (t + 1)).2.2.2) (if p then a else b) r2 Q = if p then MO_readPlace_104 (nI i) (nI (tk T (t + 1)).2.1) (wOfK (tk T (t + 1)).2.2.2) a r2 Q else MO_readPlace_104 (nI i) (nI (tk T (t + 1)).2.1) (wOfK (tk T (t + 1)).2.2.2) b r2 Q := by
        intro p _ a b
        split <;> rfl
      rw [hq, hq, hq, hq, hq] at hQ
      exact hQ
    by_cases ca : 0 < plT (nmI T (t + 1)) ∧ (tk T (t + 2)).1 = 41
    · have zl := bl.mpr ca.2
      obtain ⟨a1, a2, a3, a4, a5⟩ := hpt.resolve_left (fun z => z ca.1)
      have za : atS T t l = true := by
        unfold atS
        rw [decide_eq_true zl, decide_eq_true a3]
        rfl
      have efr : oFr T t = none := by
        unfold oFr
        rw [hc]
        dsimp only
        rw [if_pos za]
      have ekd : oKd T t = pOf (nmI T (t + 1)) := by
        unfold oKd
        rw [hc]
        dsimp only
        rw [if_pos za]
      have eng : oNg T t = false := by
        unfold oNg
        rw [hc]
        dsimp only
        rw [za]
        rfl
      have eok : oOk T N here t = true := by
        unfold oOk
        rw [efr]
      obtain ⟨r3, hr3⟩ : ∃ r3 : vmD, r3 = sA r2 50 i (nI (plT (nmI T (t + 1)))) := ⟨_, rfl⟩
      have M3 : ModR [] [50] r2 r3 := by
        rw [hr3]
        exact (ModR.refl [] [50] r2).sA (by decide) _ _
      have C3 : CurR r3 (tk T (t + 2)) := C2.mod M3 (by decide) (by decide) (by decide) (by decide) (by decide) (by rw [hr3]; rfl)
      have ht3 : t + 2 + 1 < T.length := by omega
      obtain ⟨r4, E4, C4, M4⟩ := nxR (hLn2.mod M3 (by decide) (by decide)) ht3 C3
      refine ⟨r4, 1, ((monoL M12).trans (M3.mono (by decide) (by decide))).trans (monoL M4), fun o j b1 b2 b3 => ?_, Or.inl ⟨eok, rfl, by rw [en, zl]; exact C4, by rw [M4.2.1 8 (by decide), M3.2.1 8 (by decide), M12.2.1 8 (by decide), h8], by rw [M4.2.1 28 (by decide), M3.2.1 28 (by decide), M12.2.1 28 (by decide)], ?_, fun q hq => by rw [efr] at hq; cases hq⟩, Or.inr rfl, fun Q hQ => st Q ?_⟩
      · rw [keepL M4, hr3]
        by_cases z : o = 50
        · rw [z, gA_sA, u1f_ne _ _ b3, keepL M12]
        · rw [gA_sA_ne _ _ _ z, keepL M12]
      · unfold ROx
        rw [ekd, eng, a1, a2, decide_eq_false a4, decide_eq_false a5, keepL M4, keepL M4, keepL M4, keepL M4, M3.2.2.1 51 (by decide), M3.2.2.1 53 (by decide), M3.2.2.1 54 (by decide), keepL M12, keepL M12, keepL M12, v51, v53, v54, hr3, gA_sA, u1f_eq]
        exact ⟨rfl, rfl, rfl, rfl⟩
      · unfold MO_readPlace_104
        rw [if_pos (cp.mpr ca.1), show (41 : Int32) = nI 41 from rfl, sg41, if_pos ca.2, if_neg (by decide), hic]
        refine ⟨hix, bnd_iff.mpr ?_⟩
        rw [← hr3]
        exact E4 _ hQ
    · have st : ∀ Q : Int32 → vmD → Prop, MO_readPlace_134 (nI i) (nI (tk T (t + 1)).2.1) (wOfK (tk T (t + 1)).2.2.2) r2 Q → MO_readPlace (nI i) r Q := by
        intro Q hQ
        refine st Q ?_
        unfold MO_readPlace_104
        by_cases z : 0 < plT (nmI T (t + 1))
        · rw [if_pos (cp.mpr z), show (41 : Int32) = nI 41 from rfl, sg41, if_neg (fun w => ca ⟨z, w⟩), if_pos rfl]
          exact hQ
        · rw [if_neg (fun w => z (cp.mp w))]
          exact hQ
      have ix0 : (0 : Int32) < (if nmI T (t + 1) = 15 then (1 : Int32) else if nmI T (t + 1) = 16 then 2 else -1) ↔ (nmI T (t + 1) = 15 ∨ nmI T (t + 1) = 16) := by
        by_cases z : nmI T (t + 1) = 15
        · rw [if_pos z]
          exact ⟨fun _ => Or.inl z, fun _ => by decide⟩
        · rw [if_neg z]
          by_cases z2 : nmI T (t + 1) = 16
          · rw [if_pos z2]
            exact ⟨fun _ => Or.inr z2, fun _ => by decide⟩
          · rw [if_neg z2]
            exact ⟨fun w => absurd w (by decide), fun w => by omega⟩
      by_cases cn : (nmI T (t + 1) = 15 ∨ nmI T (t + 1) = 16) ∧ ((tk T (t + 2)).1 = 41 ∨ (tk T (t + 2)).1 = 43 ∨ (tk T (t + 2)).1 = 45)
      · have st : ∀ Q : Int32 → vmD → Prop, MO_readPlace_169 (nI i) (wOfK (tk T (t + 1)).2.2.2) r2 Q → MO_readPlace (nI i) r Q := by
          intro Q hQ
          refine st Q ?_
          unfold MO_readPlace_134
          rw [MO_index_e, p2, if_pos (ix0.mpr cn.1), show (41 : Int32) = nI 41 from rfl, sg41]
          by_cases z1 : (tk T (t + 2)).1 = 41
          · rw [if_pos z1, if_neg (by decide)]
            exact hQ
          · rw [if_neg z1, if_pos rfl, show (43 : Int32) = nI 43 from rfl, sg43]
            by_cases z2 : (tk T (t + 2)).1 = 43
            · rw [if_pos z2, if_neg (by decide)]
              exact hQ
            · rw [if_neg z2, if_pos rfl, show (45 : Int32) = nI 45 from rfl, sg45, if_pos (show (tk T (t + 2)).1 = 45 by omega), if_neg (by decide)]
              exact hQ
        obtain ⟨ix, hixe⟩ : ∃ ix : Int32, ix = (if nmI T (t + 1) = 15 then (1 : Int32) else if nmI T (t + 1) = 16 then 2 else -1) := ⟨_, rfl⟩
        obtain ⟨r3, hr3⟩ : ∃ r3 : vmD, r3 = sA (sA (sA (sA r2 50 i 14) 51 i ix) 54 i (kb (decide ((tk T (t + 2)).1 = 41)))) 53 i (kb (decide ((tk T (t + 2)).1 = 45))) := ⟨_, rfl⟩
        have M3 : ModR [] [50, 51, 53, 54] r2 r3 := by
          rw [hr3]
          exact ((((ModR.refl [] [50, 51, 53, 54] r2).sA (by decide) _ _).sA (by decide) _ _).sA (by decide) _ _).sA (by decide) _ _
        have C3 : CurR r3 (tk T (t + 2)) := C2.mod M3 (by decide) (by decide) (by decide) (by decide) (by decide) (by rw [hr3]; rfl)
        have ht3 : t + 2 + 1 < T.length := more hL ht2 (by omega)
        obtain ⟨r4, E4, C4, M4⟩ := nxR (hLn2.mod M3 (by decide) (by decide)) ht3 C3
        have C4 : CurR r4 (tk T (t + 3)) := C4
        have M14 : ModR ROF ROA r r4 := ((monoL M12).trans (M3.mono (by decide) (by decide))).trans (monoL M4)
        have w50 : gA r4 50 i = 14 := by
          rw [keepL M4, hr3, gA_sA_ne _ _ _ (by decide), gA_sA_ne _ _ _ (by decide), gA_sA_ne _ _ _ (by decide), gA_sA, u1f_eq]
        have w51 : gA r4 51 i = ix := by
          rw [keepL M4, hr3, gA_sA_ne _ _ _ (by decide), gA_sA_ne _ _ _ (by decide), gA_sA, u1f_eq]
        have w53 : gA r4 53 i = kb (decide ((tk T (t + 2)).1 = 45)) := by
          rw [keepL M4, hr3, gA_sA, u1f_eq]
        have w54 : gA r4 54 i = kb (decide ((tk T (t + 2)).1 = 41)) := by
          rw [keepL M4, hr3, gA_sA_ne _ _ _ (by decide), gA_sA, u1f_eq]
        have others4 : RO i r r4 := by
          intro o j b1 b2 b3
          rw [keepL M4, hr3]
          have : o = 50 ∨ o = 51 ∨ o = 52 ∨ o = 53 ∨ o = 54 := by omega
          rcases this with rfl | rfl | rfl | rfl | rfl
          · rw [gA_sA_ne _ _ _ (by decide), gA_sA_ne _ _ _ (by decide), gA_sA_ne _ _ _ (by decide), gA_sA, u1f_ne _ _ b3, keepL M12]
          · rw [gA_sA_ne _ _ _ (by decide), gA_sA_ne _ _ _ (by decide), gA_sA, u1f_ne _ _ b3, gA_sA_ne _ _ _ (by decide), keepL M12]
          · rw [gA_sA_ne _ _ _ (by decide), gA_sA_ne _ _ _ (by decide), gA_sA_ne _ _ _ (by decide), gA_sA_ne _ _ _ (by decide), keepL M12]
          · rw [gA_sA, u1f_ne _ _ b3, gA_sA_ne _ _ _ (by decide), gA_sA_ne _ _ _ (by decide), gA_sA_ne _ _ _ (by decide), keepL M12]
          · rw [gA_sA_ne _ _ _ (by decide), gA_sA, u1f_ne _ _ b3, gA_sA_ne _ _ _ (by decide), gA_sA_ne _ _ _ (by decide), keepL M12]
        have kand : ∀ m : Nat, (if (tk T (t + 2)).1 = m then (1 : Int32) else 0) &&& 1 = kb (decide ((tk T (t + 2)).1 = m)) := by
          intro m
          by_cases z : (tk T (t + 2)).1 = m
          · rw [if_pos z, decide_eq_true z]
            rfl
          · rw [if_neg z, decide_eq_false z]
            rfl
        have st : ∀ Q : Int32 → vmD → Prop, (if kb (decide ((tk T (t + 2)).1 = 41)) = 0 then (ixOk (nI i) 8 ∧ bnd (sA r4 52 (nI i).toNatClampNeg (gF r4 42 4)) fun d_63 => MO_expression 0 d_63 fun r_65 d_64 => if r_65 = 0 then (Q 0 d_64) else tailP d_64 Q) else Q 1 r4) → MO_readPlace (nI i) r Q := by
          intro Q hQ
          refine st Q ?_
          have Ca : CurR (sA (sA r2 50 i 14) 51 i ix) (tk T (t + 2)) := by
            refine C2.mod (((ModR.refl [] [50, 51] r2).sA (by decide) _ _).sA (by decide) _ _) (by decide) (by decide) (by decide) (by decide) (by decide) rfl
          have Cb : CurR (sA (sA (sA r2 50 i 14) 51 i ix) 54 i (kb (decide ((tk T (t + 2)).1 = 41)))) (tk T (t + 2)) := by
            refine C2.mod ((((ModR.refl [] [50, 51, 54] r2).sA (by decide) _ _).sA (by decide) _ _).sA (by decide) _ _) (by decide) (by decide) (by decide) (by decide) (by decide) rfl
          unfold MO_readPlace_169
          rw [hic]
          refine ⟨hix, bnd_iff.mpr ?_⟩
          rw [MO_index_e, p2, ← hixe]
          refine ⟨hix, bnd_iff.mpr ?_⟩
          rw [show (41 : Int32) = nI 41 from rfl, sign_e Ca hkd2 (by omega) (by omega) (by omega) (by omega), kand]
          refine ⟨hix, bnd_iff.mpr ?_⟩
          rw [show (45 : Int32) = nI 45 from rfl, sign_e Cb hkd2 (by omega) (by omega) (by omega) (by omega), kand]
          refine ⟨hix, bnd_iff.mpr ?_⟩
          rw [← hr3]
          refine E4 _ ⟨hix, bnd_iff.mpr ?_⟩
          rw [w54]
          rw [hic] at hQ
          exact hQ
        by_cases z41 : (tk T (t + 2)).1 = 41
        · have zl := bl.mpr z41
          have tb : (nmI T (t + 1) = 15 ∧ pOf (nmI T (t + 1)) = 30 ∧ ix = 1) ∨ (nmI T (t + 1) = 16 ∧ pOf (nmI T (t + 1)) = 31 ∧ ix = 2) := by
            rcases cn.1 with z | z
            · exact Or.inl ⟨z, by rw [z]; rfl, by rw [hixe, z]; rfl⟩
            · exact Or.inr ⟨z, by rw [z]; rfl, by rw [hixe, z]; rfl⟩
          have za : atS T t l = true := by
            unfold atS
            rw [decide_eq_true zl, decide_eq_true (show 0 < pOf (nmI T (t + 1)) by omega)]
            rfl
          have efr : oFr T t = none := by
            unfold oFr
            rw [hc]
            dsimp only
            rw [if_pos za]
          have ekd : oKd T t = pOf (nmI T (t + 1)) := by
            unfold oKd
            rw [hc]
            dsimp only
            rw [if_pos za]
          have eng : oNg T t = false := by
            unfold oNg
            rw [hc]
            dsimp only
            rw [za]
            rfl
          have eok : oOk T N here t = true := by
            unfold oOk
            rw [efr]
          refine ⟨r4, 1, M14, others4, Or.inl ⟨eok, rfl, by rw [en, zl]; exact C4, by rw [M4.2.1 8 (by decide), M3.2.1 8 (by decide), M12.2.1 8 (by decide), h8], by rw [M4.2.1 28 (by decide), M3.2.1 28 (by decide), M12.2.1 28 (by decide)], ?_, fun q hq => by rw [efr] at hq; cases hq⟩, Or.inr rfl, fun Q hQ => st Q ?_⟩
          · unfold ROx
            rw [ekd, eng, w50, w51, w53, w54, decide_eq_true z41, decide_eq_false (show ¬ (tk T (t + 2)).1 = 45 by omega)]
            rcases tb with ⟨-, e1, e2⟩ | ⟨-, e1, e2⟩
            · rw [e1, e2]
              exact ⟨by decide, by decide, by decide, by decide⟩
            · rw [e1, e2]
              exact ⟨by decide, by decide, by decide, by decide⟩
          · rw [decide_eq_true z41, if_neg (by decide)]
            exact hQ
        · have za : atS T t l = false := by
            unfold atS
            rw [decide_eq_false (fun z => z41 (bl.mp z)), Bool.false_and]
          have zn : nearS T t = true := by
            unfold nearS
            rw [Bool.and_eq_true, Bool.or_eq_true, Bool.or_eq_true, decide_eq_true_eq, decide_eq_true_eq, decide_eq_true_eq, decide_eq_true_eq]
            exact ⟨cn.1, cn.2.resolve_left z41⟩
          have efr : oFr T t = some (t + 3) := by
            unfold oFr
            rw [hc]
            dsimp only
            rw [za, zn, if_neg Bool.false_ne_true, if_pos rfl]
          have ekd : oKd T t = if nmI T (t + 1) = 15 then 32 else 33 := by
            unfold oKd
            rw [hc]
            dsimp only
            rw [za, zn, if_neg Bool.false_ne_true, if_pos rfl]
          have eng : oNg T t = decide ((tk T (t + 2)).1 = 45) := by
            unfold oNg
            rw [hc]
            dsimp only
            rw [za, zn]
            rfl
          have eok : oOk T N here t = (xok T N here (t + 3) && decide (xat T N here (t + 3) = l)) := by
            unfold oOk
            rw [efr]
            dsimp only
            rw [hc]
          have exa : oXa T N here t = xat T N here (t + 3) := by
            unfold oXa
            rw [efr]
          obtain ⟨hq3, -, hcl3⟩ := oFr_in hL ht efr
          rw [en, ekd, eng, eok, exa, efr, Bool.and_eq_true, decide_eq_true_eq]
          obtain ⟨r5, hr5⟩ : ∃ r5 : vmD, r5 = sA r4 52 i (nI (tk T (t + 3)).2.1) := ⟨_, rfl⟩
          have M5 : ModR [] [52] r4 r5 := by
            rw [hr5]
            exact (ModR.refl [] [52] r4).sA (by decide) _ _
          have C5 : CurR r5 (tk T (t + 3)) := C4.mod M5 (by decide) (by decide) (by decide) (by decide) (by decide) (by rw [hr5]; rfl)
          have M15 : ModR ROF ROA r r5 := M14.trans (M5.mono (by decide) (by decide))
          obtain ⟨r6, b, M6, O6, E6⟩ := expTail (hLn.mod M15 (by decide) (by decide)) hq3 C5 (by rw [M5.2.1 8 (by decide), M4.2.1 8 (by decide), M3.2.1 8 (by decide), M12.2.1 8 (by decide), h8]) (hcl3 l hc)
          refine ⟨r6, b, M15.trans (monoX M6), fun o j a1 a2 a3 => ?_, ?_, ?_, fun Q hQ => st Q ?_⟩
          · rw [keepX M6 o a1 a2, hr5]
            by_cases z : o = 52
            · rw [z, gA_sA, u1f_ne _ _ a3, others4 52 j (by omega) (by omega) a3]
            · rw [gA_sA_ne _ _ _ z, others4 o j a1 a2 a3]
          · rcases O6 with ⟨o1, o2, o3, o4, o5⟩ | ⟨o1, o2, o3⟩
            · refine Or.inl ⟨⟨o1, o2⟩, o3, o4, o5, by rw [M6.2.1 28 (by decide), M5.2.1 28 (by decide), M4.2.1 28 (by decide), M3.2.1 28 (by decide), M12.2.1 28 (by decide)], ?_, fun q hq => ?_⟩
              · unfold ROx
                rw [keepX M6 50 (by omega) (by omega), keepX M6 51 (by omega) (by omega), keepX M6 53 (by omega) (by omega), keepX M6 54 (by omega) (by omega), M5.2.2.1 50 (by decide), M5.2.2.1 51 (by decide), M5.2.2.1 53 (by decide), M5.2.2.1 54 (by decide), w50, w51, w53, w54, decide_eq_false z41]
                rcases cn.1 with z | z
                · rw [hixe, z]
                  exact ⟨by decide, by decide, rfl, by decide⟩
                · rw [hixe, z]
                  exact ⟨by decide, by decide, rfl, by decide⟩
              · cases hq
                rw [keepX M6 52 (by omega) (by omega), hr5, gA_sA, u1f_eq]
            · exact Or.inr ⟨o1, o2, o3⟩
          · rcases O6 with ⟨-, -, o3, -⟩ | ⟨-, o2, -⟩
            · exact Or.inr o3
            · exact Or.inl o2
          · rw [decide_eq_false z41, if_pos (by decide), hic, C4.2.1]
            refine ⟨hix, bnd_iff.mpr ?_⟩
            rw [← hr5]
            exact E6 Q hQ
      · have st : ∀ Q : Int32 → vmD → Prop, MO_readPlace_285 (nI i) (nI (tk T (t + 1)).2.1) r2 Q → MO_readPlace (nI i) r Q := by
          intro Q hQ
          refine st Q ?_
          unfold MO_readPlace_134
          rw [MO_index_e, p2]
          by_cases z : nmI T (t + 1) = 15 ∨ nmI T (t + 1) = 16
          · rw [if_pos (ix0.mpr z), show (41 : Int32) = nI 41 from rfl, sg41, if_neg (fun w => cn ⟨z, Or.inl w⟩), if_pos rfl, show (43 : Int32) = nI 43 from rfl, sg43, if_neg (fun w => cn ⟨z, Or.inr (Or.inl w)⟩), if_pos rfl, show (45 : Int32) = nI 45 from rfl, sg45, if_neg (fun w => cn ⟨z, Or.inr (Or.inr w)⟩), if_pos rfl]
            exact hQ
          · rw [if_neg (fun w => z (ix0.mp w))]
            exact hQ
        obtain ⟨r3, E3, C3, M3⟩ := goToR hLn2 ht1 (by omega)
        have za : atS T t l = false := by
          rw [← Bool.not_eq_true]
          intro w
          unfold atS at w
          rw [Bool.and_eq_true, decide_eq_true_eq, decide_eq_true_eq] at w
          have k41 := bl.mp w.1
          rcases hpu.resolve_left (fun z => z w.2) with z | z
          · exact ca ⟨z, k41⟩
          · exact cn ⟨z, Or.inl k41⟩
        have zn : nearS T t = false := by
          rw [← Bool.not_eq_true]
          intro w
          obtain ⟨w1, w2, -⟩ := nearS_e w
          exact cn ⟨w1, Or.inr w2⟩
        obtain ⟨r', b, A1, A2, A3, A4, A5⟩ := e290 r3 (M12.trans M3) C3 za zn
        refine ⟨r', b, A1, A2, A3, A4, fun Q hQ => st Q ?_⟩
        unfold MO_readPlace_285
        exact E3 _ (A5 Q hQ)
  · have hn0 : nmI T (t + 1) = 0 := by
      unfold nmI
      rw [if_neg h2]
    have za : atS T t l = false := by
      unfold atS
      rw [hn0, pl0]
      exact Bool.and_false _
    have zn : nearS T t = false := by
      unfold nearS
      rw [hn0]
      rfl
    obtain ⟨r', b, A1, A2, A3, A4, A5⟩ := e290 r1 M1 C1 za zn
    refine ⟨r', b, A1, A2, A3, A4, fun Q hQ => ?_⟩
    unfold MO_readPlace
    refine E1 _ (bnd_iff.mpr (bnd_iff.mpr ?_))
    rw [C1.1, if_neg (fun w => h2 (k2.mp w))]
    unfold MO_readPlace_27
    rw [if_pos rfl]
    exact A5 Q hQ
theorem readOpR {B : Nat → Nat} {n : Nat} {r : vmD} {T : List Tk} {N : Nt} {here : Int32} (hLn : LnR B n r T N here) {t i : Nat} (ht : t < T.length) (hC : CurR r (tk T t)) (h8 : gF r 42 8 = 0) (hi : i < 2) (h28 : gF r 42 28 = nI i) : ∃ r' b, ModR ROF ROA r r' ∧ RO i r r' ∧ ((oOk T N here t = true ∧ b = 1 ∧ CurR r' (tk T (oNx T N here t)) ∧ gF r' 42 8 = 0 ∧ gF r' 42 28 = nI (i + 1) ∧ ROx r' i (oKd T t) (oNg T t) ∧ (∀ q, oFr T t = some q → gA r' 52 i = nI (tk T q).2.1)) ∨ (¬ oOk T N here t = true ∧ b = 0 ∧ FltR r' T (rfc T (oXa T N here t), oXa T N here t))) ∧ ∀ Q : Int32 → vmD → Prop, Q b r' → MO_readOperand r Q := by
  have hL := hLn.2.1
  have hl := hL.2.1
  have hkd := tk_kd hL t
  have hix : ixOk (nI i) 8 := nI_in (by omega) (by omega)
  have hic : (nI i).toNatClampNeg = i := nI_clamp (by omega)
  have k2 : ∀ p, (rkd (tk T p).1 = 2 ↔ (tk T p).1 = 2) := by
    intro p
    have : ∀ k, k < 128 → (rkd k = 2 ↔ k = 2) := by decide +kernel
    exact this _ (tk_kd hL p)
  obtain ⟨r1, hr1⟩ : ∃ r1 : vmD, r1 = sF (sA (sA (sA (sA (sA r 50 i 16) 51 i 0) 52 i (nI (tk T t).2.1)) 53 i 0) 54 i 0) 42 28 (nI (i + 1)) := ⟨_, rfl⟩
  have M1 : ModR ROF ROA r r1 := by
    rw [hr1]
    exact ((((((ModR.refl ROF ROA r).sA (by decide) _ _).sA (by decide) _ _).sA (by decide) _ _).sA (by decide) _ _).sA (by decide) _ _).sF (by decide) _
  have R1 : RO i r r1 := by
    intro o j h50 h54 hj
    rw [hr1, gA_sF]
    have : o = 50 ∨ o = 51 ∨ o = 52 ∨ o = 53 ∨ o = 54 := by omega
    rcases this with rfl | rfl | rfl | rfl | rfl
    · rw [gA_sA_ne _ _ _ (by decide), gA_sA_ne _ _ _ (by decide), gA_sA_ne _ _ _ (by decide), gA_sA_ne _ _ _ (by decide), gA_sA, u1f_ne _ _ hj]
    · rw [gA_sA_ne _ _ _ (by decide), gA_sA_ne _ _ _ (by decide), gA_sA_ne _ _ _ (by decide), gA_sA, u1f_ne _ _ hj, gA_sA_ne _ _ _ (by decide)]
    · rw [gA_sA_ne _ _ _ (by decide), gA_sA_ne _ _ _ (by decide), gA_sA, u1f_ne _ _ hj, gA_sA_ne _ _ _ (by decide), gA_sA_ne _ _ _ (by decide)]
    · rw [gA_sA_ne _ _ _ (by decide), gA_sA, u1f_ne _ _ hj, gA_sA_ne _ _ _ (by decide), gA_sA_ne _ _ _ (by decide), gA_sA_ne _ _ _ (by decide)]
    · rw [gA_sA, u1f_ne _ _ hj, gA_sA_ne _ _ _ (by decide), gA_sA_ne _ _ _ (by decide), gA_sA_ne _ _ _ (by decide), gA_sA_ne _ _ _ (by decide)]
  have v50 : gA r1 50 i = 16 := by
    rw [hr1, gA_sF, gA_sA_ne _ _ _ (by decide), gA_sA_ne _ _ _ (by decide), gA_sA_ne _ _ _ (by decide), gA_sA_ne _ _ _ (by decide), gA_sA, u1f_eq]
  have v51 : gA r1 51 i = 0 := by
    rw [hr1, gA_sF, gA_sA_ne _ _ _ (by decide), gA_sA_ne _ _ _ (by decide), gA_sA_ne _ _ _ (by decide), gA_sA, u1f_eq]
  have v52 : gA r1 52 i = nI (tk T t).2.1 := by
    rw [hr1, gA_sF, gA_sA_ne _ _ _ (by decide), gA_sA_ne _ _ _ (by decide), gA_sA, u1f_eq]
  have v53 : gA r1 53 i = 0 := by
    rw [hr1, gA_sF, gA_sA_ne _ _ _ (by decide), gA_sA, u1f_eq]
  have v54 : gA r1 54 i = 0 := by
    rw [hr1, gA_sF, gA_sA, u1f_eq]
  have v28 : gF r1 42 28 = nI (i + 1) := by rw [hr1, gF_sF, u1f_eq]
  have v8 : gF r1 42 8 = 0 := by
    rw [hr1, gF_sF, u1f_ne _ _ (by decide)]
    simp only [gF_sA]
    exact h8
  have C1 : CurR r1 (tk T t) := by
    unfold CurR at hC ⊢
    rw [hr1]
    simp only [gA_sA, gA_sA_ne, gA_sF, gA_sG, gA_sL, gF_sA, gF_sF, gF_sF_ne, gF_sG, gF_sL, gG_sA, gG_sF, gG_sL, gG_sGe, gG_sG_ne, gL_sA, gL_sF, gL_sG, gL_sLe, gL_sL_ne, u1f_eq, u1f_ne, bnd_iff, not_false_eq_true, Nat.reduceEqDiff]
    exact hC
  have hLn1 : LnR B n r1 T N here := hLn.mod M1 (by decide) (by decide)
  have st : ∀ Q : Int32 → vmD → Prop, (if (tk T t).1 = 40 then (MO_isPlace r1 fun r_33 d_32 => if r_33 = 0 then (MO_readOperand_90 (nI i) d_32 Q) else (MO_readPlace (nI i) d_32 fun r_36 d_35 => (r_36 = 0 ∨ r_36 = 1) ∧ Q r_36 d_35)) else MO_readOperand_90 (nI i) r1 Q) → MO_readOperand r Q := by
    intro Q hQ
    unfold MO_readOperand
    rw [h28, if_pos (show nI i < 8 from nI_lt (b := 8) (by omega) (by omega))]
    unfold MO_readOperand_18
    rw [hic]
    refine ⟨hix, bnd_iff.mpr ⟨hix, bnd_iff.mpr ?_⟩⟩
    rw [gF_sA, gF_sA, hC.2.1]
    refine ⟨hix, bnd_iff.mpr ⟨hix, bnd_iff.mpr ⟨hix, bnd_iff.mpr ?_⟩⟩⟩
    rw [gF_sA, gF_sA, gF_sA, gF_sA, gF_sA, h28, nI_p1, show (0 : Int32) &&& 1 = 0 from rfl]
    refine bnd_iff.mpr ?_
    rw [← hr1, show (40 : Int32) = nI 40 from rfl, sign_e C1 hkd (by omega) (by omega) (by omega) (by omega)]
    by_cases z : (tk T t).1 = 40
    · rw [if_pos z] at hQ ⊢
      rw [if_neg (by decide)]
      exact hQ
    · rw [if_neg z] at hQ ⊢
      rw [if_pos rfl]
      exact hQ
  have monoL : ∀ {a b : vmD}, ModR LF [] a b → ModR ROF ROA a b := fun h => h.mono (by decide) (by decide)
  have monoX : ∀ {a b : vmD}, ModR RF RA a b → ModR ROF ROA a b := fun h => h.mono (by decide) (by decide)
  have keepL : ∀ {a b : vmD}, ModR LF [] a b → ∀ o, gA b o = gA a o := fun h o => h.2.2.1 o (by intro z; cases z)
  have keepX : ∀ {a b : vmD}, ModR RF RA a b → ∀ o, 50 ≤ o → o ≤ 54 → gA b o = gA a o := fun h o a1 a2 => h.2.2.1 o (by intro z; simp only [List.mem_cons, List.mem_nil_iff, or_false] at z; omega)
  -- no place in memory
  have e90 : ∀ r2 : vmD, ModR LF [] r1 r2 → CurR r2 (tk T t) → clo T t = none → ∃ r' b, ModR ROF ROA r r' ∧ RO i r r' ∧ ((oOk T N here t = true ∧ b = 1 ∧ CurR r' (tk T (oNx T N here t)) ∧ gF r' 42 8 = 0 ∧ gF r' 42 28 = nI (i + 1) ∧ ROx r' i (oKd T t) (oNg T t) ∧ (∀ q, oFr T t = some q → gA r' 52 i = nI (tk T q).2.1)) ∨ (¬ oOk T N here t = true ∧ b = 0 ∧ FltR r' T (rfc T (oXa T N here t), oXa T N here t))) ∧ ∀ Q : Int32 → vmD → Prop, Q b r' → MO_readOperand_90 (nI i) r2 Q := by
    intro r2 M2 C2 hc
    have hLn2 := hLn1.mod M2 (by decide) (by decide)
    have w8 : gF r2 42 8 = 0 := by rw [M2.2.1 8 (by decide), v8]
    have w28 : gF r2 42 28 = nI (i + 1) := by rw [M2.2.1 28 (by decide), v28]
    have M12 : ModR ROF ROA r r2 := M1.trans (monoL M2)
    have R12 : RO i r r2 := fun o j a1 a2 a3 => by rw [keepL M2, R1 o j a1 a2 a3]
    have eng : oNg T t = false := by
      unfold oNg
      rw [hc]
    by_cases al : alonS T t = true
    · have al' := al
      unfold alonS at al'
      rw [Bool.and_eq_true, Bool.and_eq_true, decide_eq_true_eq, decide_eq_true_eq] at al'
      have h2 : (tk T t).1 = 2 := by
        by_cases z : (tk T t).1 = 2
        · exact z
        · have := al'.1
          unfold nmI at this
          rw [if_neg z] at this
          omega
      have hnm : nmI T t = idN (tk T t).2.2.2 := by
        unfold nmI
        rw [if_pos h2]
      obtain ⟨hg, -⟩ := (hL.2.2 t ht).2.2.2.2.2.2.2.2 h2
      have hw : gG r2 42 7 = wOfK (tk T t).2.2.2 := by rw [C2.2.2.2.2.2.2, if_pos h2]
      have ht1 := more hL ht (by omega)
      obtain ⟨r3, E3, C3, M3⟩ := nxR hLn2 ht1 C2
      obtain ⟨r4, E4, x50, x51, xo, M4, G4⟩ := setRegR (r := r3) (i := i) (by omega) (wOfK (tk T t).2.2.2) (by rw [keepL M3, keepL M2, v51])
      have C4 : CurR r4 (tk T (t + 1)) := C3.mod M4 (by decide) (by decide) (by decide) (by decide) (by decide) (by rw [G4])
      have hb : 0 < idN (tk T t).2.2.2 ∧ idN (tk T t).2.2.2 ≤ 25 := by rw [← hnm]; exact ⟨al'.1, al'.2.1⟩
      obtain ⟨y1, y2⟩ := sr_K hb
      have efr : oFr T t = none := by
        unfold oFr
        rw [hc]
        dsimp only
        rw [if_pos al]
      have ekd : oKd T t = idN (tk T t).2.2.2 := by
        unfold oKd
        rw [hc]
        dsimp only
        rw [if_pos al, hnm]
      have eok : oOk T N here t = true := by
        unfold oOk
        rw [efr]
      have en : oNx T N here t = t + 1 := by
        unfold oNx
        rw [hc]
        dsimp only
        rw [efr]
      refine ⟨r4, 1, (M12.trans (monoL M3)).trans (M4.mono (by decide) (by decide)), fun o j a1 a2 a3 => ?_, Or.inl ⟨eok, rfl, by rw [en]; exact C4, by rw [M4.2.1 8 (by decide), M3.2.1 8 (by decide), w8], by rw [M4.2.1 28 (by decide), M3.2.1 28 (by decide), w28], ?_, fun q hq => by rw [efr] at hq; cases hq⟩, fun Q hQ => ?_⟩
      · have : o = 50 ∨ o = 51 ∨ (52 ≤ o ∧ o ≤ 54) := by omega
        rcases this with rfl | rfl | z
        · rw [(xo j a3).1, keepL M3, R12 _ j a1 a2 a3]
        · rw [(xo j a3).2, keepL M3, R12 _ j a1 a2 a3]
        · rw [M4.2.2.1 o (by intro q; simp only [List.mem_cons, List.mem_nil_iff, or_false] at q; omega), keepL M3, R12 _ j a1 a2 a3]
      · unfold ROx
        rw [ekd, eng]
        refine ⟨by rw [x50, y1], by rw [x51, y2], ?_, ?_⟩
        · rw [M4.2.2.1 53 (by decide), keepL M3, keepL M2, v53]
          rfl
        · rw [M4.2.2.1 54 (by decide), keepL M3, keepL M2, v54, decide_eq_false (by omega), decide_eq_false (by omega)]
          rfl
      · unfold MO_readOperand_90
        rw [C2.1, if_pos ((k2 t).mpr h2), MO_isRegister_e, hw, reg_K hg, if_pos hb, if_neg (by decide)]
        refine bnd_iff.mpr (bnd_iff.mpr (E3 _ ?_))
        rw [endsR C3 (tk_kd hL _), al'.2.2, if_neg (by decide)]
        exact E4 _ hQ
    · have efr : oFr T t = some t := by
        unfold oFr
        rw [hc]
        dsimp only
        rw [if_neg al]
      have ekd : oKd T t = 34 := by
        unfold oKd
        rw [hc]
        dsimp only
        rw [if_neg al]
      have eok : oOk T N here t = xok T N here t := by
        unfold oOk
        rw [efr]
        dsimp only
        rw [hc, Bool.and_true]
      have en : oNx T N here t = xat T N here t := by
        unfold oNx
        rw [hc]
        dsimp only
        rw [efr]
      have exa : oXa T N here t = xat T N here t := by
        unfold oXa
        rw [efr]
      rw [exa, eok, en, ekd, eng, efr]
      by_cases rg : 0 < nmI T t ∧ nmI T t ≤ 25
      · -- a register's name that doesn't stand alone
        have h2 : (tk T t).1 = 2 := by
          by_cases z : (tk T t).1 = 2
          · exact z
          · have := rg.1
            unfold nmI at this
            rw [if_neg z] at this
            omega
        have hnm : nmI T t = idN (tk T t).2.2.2 := by
          unfold nmI
          rw [if_pos h2]
        obtain ⟨hg, -⟩ := (hL.2.2 t ht).2.2.2.2.2.2.2.2 h2
        have hw : gG r2 42 7 = wOfK (tk T t).2.2.2 := by rw [C2.2.2.2.2.2.2, if_pos h2]
        have ht1 := more hL ht (by omega)
        obtain ⟨r3, E3, C3, M3⟩ := nxR hLn2 ht1 C2
        have hLn3 := hLn2.mod M3 (by decide) (by decide)
        obtain ⟨r4, E4, C4, M4⟩ := goToR hLn3 ht (by omega)
        obtain ⟨r5, E5, F5, M5⟩ := refuseR C4 (by rw [M4.2.1 8 (by decide), M3.2.1 8 (by decide), w8]) hkd
        obtain ⟨xk, xa⟩ := xat_reg (N := N) (here := here) ht rg.1
        have hb : 0 < idN (tk T t).2.2.2 ∧ idN (tk T t).2.2.2 ≤ 25 := by rw [← hnm]; exact rg
        have ne : ¬ ends T (t + 1) = true := fun z => al (by unfold alonS; rw [decide_eq_true rg.1, decide_eq_true rg.2, z]; rfl)
        refine ⟨r5, 0, ((M12.trans (monoL M3)).trans (monoL M4)).trans (M5.mono (by decide) (by decide)), fun o j a1 a2 a3 => ?_, Or.inr ⟨by rw [xk]; exact Bool.false_ne_true, rfl, by rw [xa]; exact F5⟩, fun Q hQ => ?_⟩
        · rw [M5.2.2.1 o (by intro z; cases z), keepL M4, keepL M3, R12 o j a1 a2 a3]
        · unfold MO_readOperand_90
          rw [C2.1, if_pos ((k2 t).mpr h2), MO_isRegister_e, hw, reg_K hg, if_pos hb, if_neg (by decide), C2.2.1]
          refine bnd_iff.mpr (bnd_iff.mpr (E3 _ ?_))
          rw [endsR C3 (tk_kd hL _), if_pos ((kb_0 _).mpr ne)]
          exact E4 _ (E5 _ ⟨Or.inl rfl, hQ⟩)
      · obtain ⟨r3, b3, M3, O3, E3⟩ := exprR (kf := false) ht hLn2 C2 w8
        have M13 : ModR ROF ROA r r3 := M12.trans (monoX M3)
        have R13 : RO i r r3 := fun o j a1 a2 a3 => by rw [keepX M3 o a1 a2, R12 o j a1 a2 a3]
        have e148 : ∀ Q : Int32 → vmD → Prop, Q b3 r3 → (b3 = 0 ∨ b3 = 1) → MO_readOperand_90 (nI i) r2 Q := by
          intro Q hQ hb
          have e1 : MO_readOperand_148 r2 Q := by
            unfold MO_readOperand_148
            exact E3 _ ⟨hb, hQ⟩
          unfold MO_readOperand_90
          rw [C2.1]
          by_cases h2 : (tk T t).1 = 2
          · have hnm : nmI T t = idN (tk T t).2.2.2 := by
              unfold nmI
              rw [if_pos h2]
            obtain ⟨hg, -⟩ := (hL.2.2 t ht).2.2.2.2.2.2.2.2 h2
            have hw : gG r2 42 7 = wOfK (tk T t).2.2.2 := by rw [C2.2.2.2.2.2.2, if_pos h2]
            rw [if_pos ((k2 t).mpr h2), MO_isRegister_e, hw, reg_K hg, if_neg (show ¬ (0 < idN (tk T t).2.2.2 ∧ idN (tk T t).2.2.2 ≤ 25) by rw [← hnm]; exact rg), if_pos rfl]
            exact e1
          · rw [if_neg (fun w => h2 ((k2 t).mp w))]
            exact e1
        rcases O3 with ⟨-, k, -⟩ | ⟨o1, -, o2, o3, o4, -⟩ | ⟨o1, -, o2, o3⟩
        · cases k
        · refine ⟨r3, 1, M13, R13, Or.inl ⟨o2, rfl, o3, o4, by rw [M3.2.1 28 (by decide), w28], ?_, fun q hq => ?_⟩, fun Q hQ => e148 Q (by rw [o1]; exact hQ) (Or.inr o1)⟩
          · unfold ROx
            rw [keepX M3 50 (by omega) (by omega), keepX M3 51 (by omega) (by omega), keepX M3 53 (by omega) (by omega), keepX M3 54 (by omega) (by omega), keepL M2, keepL M2, keepL M2, keepL M2, v50, v51, v53, v54]
            exact ⟨by decide, by decide, by decide, by decide⟩
          · cases hq
            rw [keepX M3 52 (by omega) (by omega), keepL M2, v52]
        · exact ⟨r3, 0, M13, R13, Or.inr ⟨o2, rfl, o3⟩, fun Q hQ => e148 Q (by rw [o1]; exact hQ) (Or.inl o1)⟩
  by_cases k40 : (tk T t).1 = 40
  · obtain ⟨r2, C2, M2, E2⟩ := isPlR hLn1 ht k40 C1
    have st : ∀ Q : Int32 → vmD → Prop, (if kb (clo T t).isSome = 0 then (MO_readOperand_90 (nI i) r2 Q) else (MO_readPlace (nI i) r2 fun r_36 d_35 => (r_36 = 0 ∨ r_36 = 1) ∧ Q r_36 d_35)) → MO_readOperand r Q := by
      intro Q hQ
      refine st Q ?_
      rw [if_pos k40]
      exact E2 _ hQ
    cases hc : clo T t with
    | none =>
      rw [hc] at st
      obtain ⟨r', b, A1, A2, A3, A4⟩ := e90 r2 M2 C2 hc
      refine ⟨r', b, A1, A2, A3, fun Q hQ => st Q ?_⟩
      rw [if_pos (by decide)]
      exact A4 Q hQ
    | some l =>
      rw [hc] at st
      have st : ∀ Q : Int32 → vmD → Prop, (MO_readPlace (nI i) r2 fun r_36 d_35 => (r_36 = 0 ∨ r_36 = 1) ∧ Q r_36 d_35) → MO_readOperand r Q := fun Q hQ => st Q (by rw [if_neg (show ¬ kb (some l).isSome = 0 from (show ¬ (1 : Int32) = 0 by decide))]; exact hQ)
      obtain ⟨r', b, A1, A2, A3, A4, A5⟩ := plcR (hLn1.mod M2 (by decide) (by decide)) ht C2 (by rw [M2.2.1 8 (by decide), v8]) hi (by rw [keepL M2, v51]) (by rw [keepL M2, v53]) (by rw [keepL M2, v54]) hc
      refine ⟨r', b, (M1.trans (monoL M2)).trans A1, fun o j a1 a2 a3 => by rw [A2 o j a1 a2 a3, keepL M2, R1 o j a1 a2 a3], ?_, fun Q hQ => st Q (A5 _ ⟨A4, hQ⟩)⟩
      rcases A3 with ⟨B1, B2, B3, B4, B5, B6⟩ | B
      · exact Or.inl ⟨B1, B2, B3, B4, by rw [B5, M2.2.1 28 (by decide), v28], B6⟩
      · exact Or.inr B
  · have hc : clo T t = none := by
      unfold clo
      rw [if_neg k40]
    obtain ⟨r', b, A1, A2, A3, A4⟩ := e90 r1 (ModR.refl _ _ _) C1 hc
    refine ⟨r', b, A1, A2, A3, fun Q hQ => st Q ?_⟩
    rw [if_neg k40]
    exact A4 Q hQ
