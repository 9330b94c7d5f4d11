/-! The reference reads an exp, whole: its contract -/
def ExO (kf : Bool) (T : List Tk) (X : Xr) (r' : vmD) (b : Int32) : Prop := (b = 0 ∧ kf = true ∧ ¬ (rtr X).1 = 0 ∧ FltR r' T (rtr X)) ∨ (b = 1 ∧ ¬ (kf = true ∧ ¬ (rtr X).1 = 0) ∧ rok X = true ∧ CurR r' (tk T X.2.1) ∧ gF r' 42 8 = 0 ∧ (kf = true → gF r' 42 22 = rvlX X)) ∨ (b = 0 ∧ ¬ (kf = true ∧ ¬ (rtr X).1 = 0) ∧ ¬ rok X = true ∧ FltR r' T (rfc T X.2.1, X.2.1))
theorem rok_n {t : Nat} {os : List Op} {v : List Vl} {tr : Nat × Nat} : rok (true, t, os, v, tr) = false := rfl
theorem rtr_n {t : Nat} {os : List Op} {v : List Vl} {tr : Nat × Nat} : rtr (true, t, os, v, tr) = tr := rfl
theorem xrun_le {T : List Tk} {N : Nt} {here : Int32} : ∀ (f : Nat) (w : Bool) (os : List Op) (v : List Vl) (tr : Nat × Nat) (t : Nat), t ≤ (xrun T N here f w os v tr t).2.1 := by
  intro f
  induction f with
  | zero => intro w os v tr t; exact Nat.le_refl _
  | succ f ih =>
    intro w os v tr t
    unfold xrun
    split
    · split
      · split
        · exact Nat.le_refl _
        · exact Nat.le_of_succ_le (ih _ _ _ _ _)
      · split
        · exact Nat.le_refl _
        · exact Nat.le_of_succ_le (ih _ _ _ _ _)
    · split
      · exact Nat.le_of_succ_le (ih _ _ _ _ _)
      · split
        · exact Nat.le_of_succ_le (ih _ _ _ _ _)
        · exact Nat.le_refl _
theorem exprA {B : Nat → Nat} {n : Nat} {kf : Bool} {T : List Tk} {N : Nt} {here : Int32} : ∀ (F f : Nat) (os : List Op) (v : List Vl) (tr : Nat × Nat) (t : Nat) (r : vmD), f ≤ F → T.length ≤ t + f → t < T.length → LnR B n r T N here → CurR r (tk T t) → SR kf T r os v tr → XJ true os v tr t → tr.1 < 6 → ∃ r' b, ModR RF RA r r' ∧ ExO kf T (xrun T N here f true os v tr t) r' b ∧ t ≤ (xrun T N here f true os v tr t).2.1 ∧ ∀ Q : Int32 → vmD → Prop, Q b r' → ∃ m, MO_expression_15 Q m (kb kf) r := by
  intro F
  induction F with
  | zero => intro f os v tr t r hF hf ht; exact absurd ht (by omega)
  | succ F ih =>
    intro f os v tr t r hF hf ht hLn hC hS hJ h6
    obtain ⟨f, rfl⟩ : ∃ g, f = g + 1 := ⟨f - 1, by omega⟩
    have hLx := hLn.2.1
    have hkd := tk_kd hLx t
    have hlen := hJ.1.len
    have ktr : ∀ tr' : Nat × Nat, tr' = tr → ¬ (kf = true ∧ ¬ tr'.1 = 0) := fun tr' e z => by rw [e] at z; exact z.2 (hS.2.2.2.2.2.2 z.1).1
    have sg40 := sign_e hC hkd (s := 40) (by omega) (by omega) (by omega) (by omega)
    have sg45 := sign_e hC hkd (s := 45) (by omega) (by omega) (by omega) (by omega)
    have sg126 := sign_e hC hkd (s := 126) (by omega) (by omega) (by omega) (by omega)
    by_cases co : (tk T t).1 = 40 ∨ (tk T t).1 = 126 ∨ (tk T t).1 = 45
    · have ht1 := more hLx ht (by omega)
      have st : ∀ (m : Nat) (Q : Int32 → vmD → Prop), MO_expression_42 (MO_expression_15 Q m) (kb kf) r Q → MO_expression_15 Q (m + 1) (kb kf) r := by
        intro m Q hQ
        unfold MO_expression_15
        rw [show (40 : Int32) = nI 40 from rfl, sg40]
        by_cases z1 : (tk T t).1 = 40
        · rw [if_pos z1, if_neg (by decide)]
          exact hQ
        · rw [if_neg z1, if_pos rfl, show (45 : Int32) = nI 45 from rfl, sg45]
          by_cases z2 : (tk T t).1 = 45
          · rw [if_pos z2, if_neg (by decide)]
            exact hQ
          · rw [if_neg z2, if_pos rfl, show (126 : Int32) = nI 126 from rfl, sg126, if_pos (show (tk T t).1 = 126 by omega), if_neg (by decide)]
            exact hQ
      have c40 : nI (opn os) = 40 ↔ opn os = 40 := nI_eq (b := 40) (by have := hJ.1.2.2; omega) (by omega)
      by_cases h40 : 40 ≤ opn os
      · rw [xr_full co h40]
        obtain ⟨r', E, FF, M⟩ := refuseR hC hS.2.2.2.1 hkd
        refine ⟨r', 0, M.mono (by decide) (by decide), Or.inr (Or.inr ⟨rfl, ktr _ rfl, by rw [rok_n]; exact Bool.false_ne_true, FF⟩), Nat.le_refl _, fun Q hQ => ⟨1, st 0 Q ?_⟩⟩
        unfold MO_expression_42
        rw [hS.2.2.1, if_pos (c40.mpr (by have := hJ.1.2.2; omega))]
        exact E _ ⟨Or.inl rfl, hQ⟩
      · rw [xr_opn co h40]
        have J1 := hJ.psh co h40
        have hk4 : 4 < (tk T t).1 := by omega
        have h6v := hC.2.2.2.2.2.1 hk4
        have nO : isO (if (tk T t).1 = 45 then 109 else (tk T t).1) = true := by
          rcases co with e | e | e <;> rw [e] <;> decide
        obtain ⟨r1, E1, M1, G1, -, S1⟩ := pushR (k := if (tk T t).1 = 45 then 109 else (tk T t).1) hS hC hlen.1 rfl
        have S1 := S1 nO
        have M2 : ModR AF2 RA r (sF r1 42 19 (gF r1 42 19 + 1)) := M1.sF (by decide) _
        have C2 : CurR (sF r1 42 19 (gF r1 42 19 + 1)) (tk T t) := SR.cur (kf := kf) (T := T) hC M2 G1
        have M2' : ModR RF RA r (sF r1 42 19 (gF r1 42 19 + 1)) := M2.mono (by decide) (by decide)
        obtain ⟨r3, E3, C3, M3⟩ := nxR (hLn.mod M2' (by decide) (by decide)) ht1 C2
        have M4 : ModR RF RA r r3 := M2'.trans (M3.mono (by decide) (by decide))
        obtain ⟨r5, b, M5, O5, l5, E5⟩ := ih f _ _ _ (t + 1) r3 (by omega) (by omega) ht1 (hLn.mod M4 (by decide) (by decide)) C3 (S1.lf M3) J1 h6
        refine ⟨r5, b, M4.trans M5, O5, by omega, fun Q hQ => ?_⟩
        obtain ⟨m, hm⟩ := E5 Q hQ
        refine ⟨m + 1, st m Q ?_⟩
        have e84 : ∀ s0 : Int32, s0 = nI (ropN (if (tk T t).1 = 45 then 109 else (tk T t).1)) → MO_expression_84 (MO_expression_15 Q m) (kb kf) s0 r Q := by
          intro s0 hs
          unfold MO_expression_84
          rw [hs]
          exact E1 _ (bnd_iff.mpr (E3 _ hm))
        unfold MO_expression_42
        rw [hS.2.2.1, if_neg (fun z => h40 (by have := c40.mp z; omega)), h6v]
        rcases co with e | e | e
        · rw [e] at e84 ⊢
          rw [if_pos (by decide)]
          exact e84 1 (by decide)
        · rw [e] at e84 ⊢
          rw [if_neg (by decide), if_neg (by decide)]
          exact e84 3 (by decide)
        · rw [e] at e84 ⊢
          rw [if_neg (by decide), if_pos (by decide)]
          exact e84 2 (by decide)
    · have st : ∀ (m : Nat) (Q : Int32 → vmD → Prop), (MO_operand (kb kf) r fun r_14 d_13 => if r_14 = 0 then (Q 0 d_13) else (MO_behind (kb kf) d_13 fun r_17 d_16 => if (0 : Int32) < (gF d_16 42 8) then (Q 0 d_16) else (if r_17 = 0 then (∃ m139, MO_expression_139 Q m139 (kb kf) d_16) else ((MO_expression_15 Q m) (kb kf) d_16)))) → MO_expression_15 Q (m + 1) (kb kf) r := by
        intro m Q hQ
        unfold MO_expression_15
        rw [show (40 : Int32) = nI 40 from rfl, sg40, if_neg (fun z => co (Or.inl z)), if_pos rfl, show (45 : Int32) = nI 45 from rfl, sg45, if_neg (fun z => co (Or.inr (Or.inr z))), if_pos rfl, show (126 : Int32) = nI 126 from rfl, sg126, if_neg (fun z => co (Or.inr (Or.inl z))), if_pos rfl]
        exact hQ
      obtain ⟨r1, M1, O1⟩ := operR hLn ht hC hS hJ
      cases hv : xval T N here t with
      | none =>
        rw [hv] at O1
        obtain ⟨E1, F1⟩ := O1
        rw [xr_none co hv]
        refine ⟨r1, 0, M1, Or.inr (Or.inr ⟨rfl, ktr _ rfl, by rw [rok_n]; exact Bool.false_ne_true, F1⟩), Nat.le_refl _, fun Q hQ => ⟨1, st 0 Q (E1 _ ?_)⟩⟩
        rw [if_pos rfl]
        exact hQ
      | some x =>
        rw [hv] at O1
        dsimp only at O1
        rw [xr_some co hv]
        have ht1 := more hLx ht (xval_k hv)
        by_cases ck : kf = true ∧ x.2 = false
        · rw [if_pos ck] at O1
          obtain ⟨E1, F1⟩ := O1
          have tr0 := (hS.2.2.2.2.2.2 ck.1).1
          have et : tro x tr t = (4, t) := by
            unfold tro
            rw [if_pos ⟨ck.2, tr0⟩]
          have nz : ¬ (4, t).1 = 0 := (show ¬ (4 : Nat) = 0 by decide)
          rw [et]
          have e6 := stl_keep 6 os (x :: v) _ nz
          have er := rtr_keep (T := T) (N := N) (here := here) (f := f) (w := false) (os := (stl 6 os (x :: v) (4, t)).1) (v := (stl 6 os (x :: v) (4, t)).2.1) (t := t + 1) (show ¬ (stl 6 os (x :: v) (4, t)).2.2.1 = 0 by rw [e6]; exact nz)
          rw [e6] at er
          refine ⟨r1, 0, M1, Or.inl ⟨rfl, ck.1, ?_, ?_⟩, ?_, fun Q hQ => ⟨1, st 0 Q (E1 _ ?_)⟩⟩
          · rw [e6, er]
            exact nz
          · rw [e6, er]
            exact F1
          · exact Nat.le_of_succ_le (xrun_le _ _ _ _ _ _)
          · rw [if_pos rfl]
            exact hQ
        · rw [if_neg ck] at O1
          obtain ⟨E1, S1, C1⟩ := O1
          have J1 := hJ.val x
          obtain ⟨J2, -, h7⟩ := stl_XJ 7 (by omega) _ _ _ J1
          obtain ⟨r2, b, M2, O2, E2⟩ := behR f _ _ _ (t + 1) r1 (by omega) ht1 (hLn.mod M1 (by decide) (by decide)) C1 S1 J2 (fun o o' e => by have := h7 o o' e; omega)
          rw [stl_comp (show 6 ≤ 7 by omega)] at O2
          have st2 : ∀ (m : Nat) (Q : Int32 → vmD → Prop), (if (0 : Int32) < (gF r2 42 8) then (Q 0 r2) else (if b = 0 then (∃ m139, MO_expression_139 Q m139 (kb kf) r2) else ((MO_expression_15 Q m) (kb kf) r2))) → MO_expression_15 Q (m + 1) (kb kf) r := by
            intro m Q hQ
            refine st m Q (E1 _ ?_)
            rw [if_neg (by decide)]
            unfold MO_behind
            exact E2 _ hQ
          have b6 : (xrun T N here f false (stl 6 os (x :: v) (tro x tr t)).1 (stl 6 os (x :: v) (tro x tr t)).2.1 (stl 6 os (x :: v) (tro x tr t)).2.2 (t + 1)).2.2.2.2.1 < 6 := xrun_6 _ _ _ _ _ _ (stl_6 _ _ _ _ (tro_6 h6))
          have le := xrun_le (T := T) (N := N) (here := here) f false (stl 6 os (x :: v) (tro x tr t)).1 (stl 6 os (x :: v) (tro x tr t)).2.1 (stl 6 os (x :: v) (tro x tr t)).2.2 (t + 1)
          obtain ⟨X, hX⟩ : ∃ X, X = xrun T N here f false (stl 6 os (x :: v) (tro x tr t)).1 (stl 6 os (x :: v) (tro x tr t)).2.1 (stl 6 os (x :: v) (tro x tr t)).2.2 (t + 1) := ⟨_, rfl⟩
          rw [← hX] at O2 b6 le ⊢
          have c0 : ∀ {a : Nat}, a < 6 → ¬ a = 0 → (0 : Int32) < nI a := fun h hn => nI_lt (a := 0) (by omega) (by omega)
          rcases O2 with ⟨o1, o2, o3, o4⟩ | ⟨o1, o2, o3, o4, o5, o6, o7, o8⟩ | ⟨o1, f', os2, v2, tr2, t2, ofl, o2, o3, o4, o5, o6, o7, o8⟩
          · refine ⟨r2, 0, M1.trans M2, Or.inl ⟨rfl, o2, o3, o4⟩, by omega, fun Q hQ => ⟨1, st2 0 Q ?_⟩⟩
            rw [o4.1, if_pos (c0 (rtr_6 b6) o3)]
            exact hQ
          · obtain ⟨J3, p3, h3⟩ := stl_XJ 1 (by omega) _ _ _ o6
            have hX1 : X.1 = false := o2
            have kt : ¬ (kf = true ∧ ¬ (rtr X).1 = 0) := fun z => by
              rw [o7] at z
              exact z.2 (o8.2.2.2.2.2.2 z.1).1
            have h80 : ¬ (0 : Int32) < gF r2 42 8 := by rw [o8.2.2.2.1]; decide
            have rokp : rok X = true ↔ parn X.2.2.1 = 0 := by
              unfold rok
              rw [hX1, Bool.and_eq_true, decide_eq_true_eq]
              exact ⟨fun z => z.2, fun z => ⟨rfl, z⟩⟩
            cases hos : (stl 1 X.2.2.1 X.2.2.2.1 X.2.2.2.2).1 with
            | nil =>
              rw [hos] at p3 J3
              have hp : parn X.2.2.1 = 0 := p3.symm
              have hv1 : (stl 1 X.2.2.1 X.2.2.2.1 X.2.2.2.2).2.1.length = 1 := J3.1.2.1
              have hw : ∃ w, (stl 1 X.2.2.1 X.2.2.2.1 X.2.2.2.2).2.1 = [w] := by
                match hh : (stl 1 X.2.2.1 X.2.2.2.1 X.2.2.2.2).2.1, hv1 with
                | [w], _ => exact ⟨w, rfl⟩
                | [], h => exact absurd h (by show ¬ 0 = 1; omega)
                | _ :: _ :: _, h => exact absurd h (by rw [List.length_cons, List.length_cons]; omega)
              obtain ⟨w, hw⟩ := hw
              have hr : rvlX X = w.1 := by
                unfold rvlX
                rw [hw]
              obtain ⟨r3, hr3⟩ : ∃ r3 : vmD, r3 = sF r2 42 22 (gA r2 49 0) := ⟨_, rfl⟩
              have M3 : ModR [22] [] r2 r3 := by rw [hr3]; exact (ModR.refl [22] [] r2).sF (by decide) _
              refine ⟨r3, 1, (M1.trans M2).trans (M3.mono (by decide) (by decide)), Or.inr (Or.inl ⟨rfl, kt, rokp.mpr hp, o5.mod M3 (by decide) (by decide) (by decide) (by decide) (by decide) (by rw [hr3]; rfl), ?_, fun k => ?_⟩), by omega, fun Q hQ => ⟨1, st2 0 Q ?_⟩⟩
              · rw [M3.2.1 8 (by decide)]
                exact o8.2.2.2.1
              · have s49 := (o8.2.2.2.2.2.2 k).2
                rw [hw] at s49
                have h49 : gA r2 49 0 = w.1 := s49.1
                rw [hr3, gF_sF, u1f_eq, h49, hr]
              · rw [if_neg h80, if_pos o1]
                refine ⟨1, ?_⟩
                unfold MO_expression_139
                rw [o8.1, hos, if_neg (by decide)]
                refine bnd_iff.mpr (bnd_iff.mpr ?_)
                rw [← hr3]
                exact hQ
            | cons o os' =>
              have hl := h3 o os' hos
              rw [hos] at p3 J3
              have h40 : o.1 = 40 := by
                by_cases z : o.1 = 40
                · exact z
                · have := top_lev J3.1.1 z
                  omega
              have hp : 0 < parn X.2.2.1 := by
                rw [← p3]
                show 0 < (if o.1 = 40 then 1 else 0) + parn os'
                rw [if_pos h40]
                omega
              obtain ⟨r3, E3, F3, M3⟩ := refuseR o5 o8.2.2.2.1 (tk_kd hLx _)
              refine ⟨r3, 0, (M1.trans M2).trans (M3.mono (by decide) (by decide)), Or.inr (Or.inr ⟨rfl, kt, fun z => by have := rokp.mp z; omega, F3⟩), by omega, fun Q hQ => ⟨1, st2 0 Q ?_⟩⟩
              rw [if_neg h80, if_pos o1]
              refine ⟨1, ?_⟩
              have hll : os'.length + 1 ≤ 286 := J3.1.len.1
              have t47 : gA r2 47 os'.length = nI 1 := by
                have s47 := o8.2.2.2.2.1
                rw [hos] at s47
                have := s47.1
                rw [map_len] at this
                rw [this]
                show nI (ropN o.1) = nI 1
                rw [h40]
                rfl
              unfold MO_expression_139
              rw [o8.1, hos, if_pos (show (0 : Int32) < nI (o :: os').length from nI_lt (a := 0) (by rw [List.length_cons]; omega) (by rw [List.length_cons]; omega)), show nI (o :: os').length - 1 = nI os'.length from nI_pred _]
              refine ⟨nI_in (by omega) (by omega), bnd_iff.mpr ?_⟩
              rw [nI_clamp (by omega), t47, if_pos (show nI 1 = 1 from rfl)]
              exact E3 _ ⟨Or.inl rfl, hQ⟩
          · have b62 : tr2.1 < 6 := by
              by_cases z : tr2.1 = 0
              · omega
              · rw [o2, xrun_keep _ _ _ _ _ _ z] at b6
                exact b6
            obtain ⟨r5, b5, M5, O5, l5, E5⟩ := ih f' os2 v2 tr2 t2 r2 (by omega) o3 o5 (hLn.mod (M1.trans M2) (by decide) (by decide)) o8 o7 o6 b62
            rw [← o2] at O5 l5
            refine ⟨r5, b5, (M1.trans M2).trans M5, O5, by omega, fun Q hQ => ?_⟩
            obtain ⟨m, hm⟩ := E5 Q hQ
            refine ⟨m + 1, st2 m Q ?_⟩
            rw [if_neg (show ¬ (0 : Int32) < gF r2 42 8 by rw [o7.2.2.2.1]; decide), o1, if_neg (by decide)]
            exact hm
/-- an exp that the reference reads -/
theorem exprR {B : Nat → Nat} {n : Nat} {kf : Bool} {T : List Tk} {N : Nt} {here : Int32} {t : Nat} {r : vmD} (ht : t < T.length) (hLn : LnR B n r T N here) (hC : CurR r (tk T t)) (h8 : gF r 42 8 = 0) : ∃ r' b, ModR RF RA r r' ∧ ((b = 0 ∧ kf = true ∧ ¬ (xtr T N here t).1 = 0 ∧ FltR r' T (xtr T N here t)) ∨ (b = 1 ∧ ¬ (kf = true ∧ ¬ (xtr T N here t).1 = 0) ∧ xok T N here t = true ∧ CurR r' (tk T (xat T N here t)) ∧ gF r' 42 8 = 0 ∧ (kf = true → gF r' 42 22 = xvl T N here t)) ∨ (b = 0 ∧ ¬ (kf = true ∧ ¬ (xtr T N here t).1 = 0) ∧ ¬ xok T N here t = true ∧ FltR r' T (rfc T (xat T N here t), xat T N here t))) ∧ ∀ Q : Int32 → vmD → Prop, Q b r' → MO_expression (kb kf) r Q := by
  obtain ⟨r0, hr0⟩ : ∃ r0 : vmD, r0 = sF (sF (sF r 42 16 0) 42 18 0) 42 19 0 := ⟨_, rfl⟩
  have M0 : ModR AF2 RA r r0 := by
    rw [hr0]
    exact (((ModR.refl AF2 RA r).sF (by decide) _).sF (by decide) _).sF (by decide) _
  have G0 : gG r0 = gG r := by rw [hr0]; rfl
  have S0 : SR kf T r0 [] [] (0, 0) := by
    unfold SR
    rw [hr0]
    simp only [gA_sA, gA_sA_ne, gA_sF, gA_sG, gA_sL, gF_sA, gF_sF, gF_sF_ne, gF_sG, gF_sL, gG_sA, gG_sF, gG_sL, gG_sGe, gG_sG_ne, gL_sA, gL_sF, gL_sG, gL_sLe, gL_sL_ne, u1f_eq, u1f_ne, bnd_iff, not_false_eq_true, Nat.reduceEqDiff]
    refine ⟨?_, ?_, ?_, h8, True.intro, True.intro, fun _ => ⟨?_, True.intro⟩⟩ <;> first | rfl | trivial
  have M0' : ModR RF RA r r0 := M0.mono (by decide) (by decide)
  obtain ⟨r', b, M, O, l, E⟩ := exprA (T.length - t) (T.length - t) [] [] (0, 0) t r0 (Nat.le_refl _) (by omega) ht (hLn.mod M0' (by decide) (by decide)) (SR.cur (kf := kf) (T := T) hC M0 G0) S0 (XJ.init t) (by decide)
  refine ⟨r', b, M0'.trans M, O, fun Q hQ => ?_⟩
  unfold MO_expression
  refine bnd_iff.mpr (bnd_iff.mpr (bnd_iff.mpr ?_))
  rw [← hr0]
  exact E Q hQ
