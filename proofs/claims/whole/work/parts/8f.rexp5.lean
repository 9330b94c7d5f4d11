/-! The reference reads an exp, whole: what stands behind -/
theorem rtr_stop {os : List Op} {v : List Vl} {tr : Nat × Nat} {t : Nat} (hI : Inv os) (hh : ∀ o os', os = o :: os' → lev o.1 < 6) : rtr (false, t, os, v, tr) = (stl 1 os v tr).2.2 := by
  unfold rtr
  by_cases z : rok (false, t, os, v, tr) = true
  · rw [if_pos z]
  · rw [if_neg z]
    exact (stl_low os v tr hI hh).symm
/-- how the reference goes on behind a value -/
def BehO (kf : Bool) (T : List Tk) (N : Nt) (here : Int32) (f t : Nat) (X : Xr) (r' : vmD) (b : Int32) : Prop := (b = 0 ∧ kf = true ∧ ¬ (rtr X).1 = 0 ∧ FltR r' T (rtr X)) ∨ (b = 0 ∧ X.1 = false ∧ t ≤ X.2.1 ∧ X.2.1 < T.length ∧ CurR r' (tk T X.2.1) ∧ XJ false X.2.2.1 X.2.2.2.1 X.2.2.2.2 X.2.1 ∧ rtr X = (stl 1 X.2.2.1 X.2.2.2.1 X.2.2.2.2).2.2 ∧ SR kf T r' (stl 1 X.2.2.1 X.2.2.2.1 X.2.2.2.2).1 (stl 1 X.2.2.1 X.2.2.2.1 X.2.2.2.2).2.1 (stl 1 X.2.2.1 X.2.2.2.1 X.2.2.2.2).2.2) ∨ (b = 1 ∧ ∃ f' os' v' tr' t', f' ≤ f ∧ X = xrun T N here f' true os' v' tr' t' ∧ T.length ≤ t' + f' ∧ t ≤ t' ∧ t' < T.length ∧ XJ true os' v' tr' t' ∧ SR kf T r' os' v' tr' ∧ CurR r' (tk T t'))
theorem behR {B : Nat → Nat} {n : Nat} {kf : Bool} {T : List Tk} {N : Nt} {here : Int32} : ∀ (f : Nat) (os : List Op) (v : List Vl) (tr : Nat × Nat) (t : Nat) (r : vmD), T.length ≤ t + f → t < T.length → LnR B n r T N here → CurR r (tk T t) → SR kf T r os v tr → XJ false os v tr t → NU os → ∃ r' b, ModR RF RA r r' ∧ BehO kf T N here f t (xrun T N here f false (stl 6 os v tr).1 (stl 6 os v tr).2.1 (stl 6 os v tr).2.2 t) r' b ∧ ∀ Q : Int32 → vmD → Prop, Q b r' → ∃ m, MO_behind_0 Q m (kb kf) r := by
  intro f
  induction f with
  | zero => intro os v tr t r hf ht; exact absurd ht (by omega)
  | succ f ih =>
    intro os v tr t r hf ht hLn hC hS hJ hN
    have hLx := hLn.2.1
    have hkd := tk_kd hLx t
    have hlen := hJ.1.len
    obtain ⟨J6, p6, h6⟩ := stl_XJ 6 (by omega) _ _ _ hJ
    have cmp : ∀ L, L ≤ 6 → stl L (stl 6 os v tr).1 (stl 6 os v tr).2.1 (stl 6 os v tr).2.2 = stl L os v tr := fun L hL => stl_comp hL os v tr
    have hall := Inv_all os hJ.1.1
    have sg := sign_e hC hkd (s := 41) (by omega) (by omega) (by omega) (by omega)
    obtain ⟨x2, hx2, E16⟩ := b16 (kf := kf) (r := r) os hlen.1 hall hS.2.2.2.2.1
    -- the sign )
    have st41 : (tk T t).1 = 41 → ∀ (m : Nat) (Q : Int32 → vmD → Prop), (∃ m36, MO_behind_36 (MO_behind_0 Q m) Q m36 (kb kf) x2 r) → MO_behind_0 Q (m + 1) (kb kf) r := by
      intro z m Q hQ
      unfold MO_behind_0
      rw [show (41 : Int32) = nI 41 from rfl, sg, if_pos z, if_neg (by decide), hS.1]
      exact bnd_iff.mpr (E16 _ _ hQ)
    have stno : ¬ (tk T t).1 = 41 → ∀ (m : Nat) (Q : Int32 → vmD → Prop), (∃ m128, MO_behind_128 Q m128 (kb kf) (nI (if lev (tk T t).1 = 7 then 0 else lev (tk T t).1)) r) → MO_behind_0 Q (m + 1) (kb kf) r := by
      intro z m Q hQ
      have k5 : rkd (tk T t).1 = 5 ↔ 4 < (tk T t).1 := by
        have : ∀ k, k < 128 → (rkd k = 5 ↔ 4 < k) := by decide +kernel
        exact this _ hkd
      unfold MO_behind_0
      rw [show (41 : Int32) = nI 41 from rfl, sg, if_neg z, if_pos rfl, hC.1]
      by_cases h4 : 4 < (tk T t).1
      · rw [if_pos (k5.mpr h4), hC.2.2.2.2.2.1 h4]
        refine rnk_v _ hkd h4 _ _ ?_
        unfold MO_behind_127
        exact hQ
      · rw [if_neg (fun w => h4 (k5.mp w))]
        have : ∀ k, k < 5 → nI (if lev k = 7 then 0 else lev k) = 0 := by decide
        rw [this _ (by omega)] at hQ
        unfold MO_behind_127
        exact hQ
    by_cases cc : (tk T t).1 = 41 ∧ 0 < parn os
    · have ht1 := more hLx ht (by omega)
      have eX : xrun T N here (f + 1) false (stl 6 os v tr).1 (stl 6 os v tr).2.1 (stl 6 os v tr).2.2 t = xrun T N here f false (stl 6 (stl 1 os v tr).1.tail (stl 1 os v tr).2.1 (stl 1 os v tr).2.2).1 (stl 6 (stl 1 os v tr).1.tail (stl 1 os v tr).2.1 (stl 1 os v tr).2.2).2.1 (stl 6 (stl 1 os v tr).1.tail (stl 1 os v tr).2.1 (stl 1 os v tr).2.2).2.2 (t + 1) := by
        rw [xr_close cc.1 (by rw [p6]; exact cc.2), cmp 1 (by omega)]
      rw [eX]
      obtain ⟨r1, out, ⟨M1, G1, F1, S1⟩, E1⟩ := b36 os v tr r hS hJ
      have hxn : ¬ x2 < 0 := fun w => by have := hx2.mp w; omega
      cases out with
      | true =>
        obtain ⟨k, nz, F⟩ := F1 rfl
        have e6 := stl_keep 6 (stl 1 os v tr).1.tail (stl 1 os v tr).2.1 _ nz
        have er : rtr (xrun T N here f false (stl 6 (stl 1 os v tr).1.tail (stl 1 os v tr).2.1 (stl 1 os v tr).2.2).1 (stl 6 (stl 1 os v tr).1.tail (stl 1 os v tr).2.1 (stl 1 os v tr).2.2).2.1 (stl 6 (stl 1 os v tr).1.tail (stl 1 os v tr).2.1 (stl 1 os v tr).2.2).2.2 (t + 1)) = (stl 1 os v tr).2.2 := by
          rw [rtr_keep (by rw [e6]; exact nz), e6]
        refine ⟨r1, 0, M1.mono (by decide) (by decide), Or.inl ⟨rfl, k, by rw [er]; exact nz, by rw [er]; exact F⟩, fun Q hQ => ⟨1, st41 cc.1 0 Q (E1 _ _ Q ?_)⟩⟩
        rw [if_pos rfl]
        exact hQ
      | false =>
        have S1 := S1 rfl
        obtain ⟨J1, p1, hh⟩ := stl_XJ 1 (by omega) _ _ _ hJ
        obtain ⟨t0, os', eo, J2, p2⟩ := J1.close (by omega) hh
        have et : (stl 1 os v tr).1.tail = os' := by rw [eo]; rfl
        rw [et]
        rw [eo] at S1
        have hl2 := J1.1.len
        rw [eo, List.length_cons] at hl2
        have hl3 := J1.1.2.2
        obtain ⟨r2, hr2⟩ : ∃ r2 : vmD, r2 = sF (sF r1 42 16 (nI os'.length)) 42 19 (nI (opn os')) := ⟨_, rfl⟩
        have M2 : ModR AF2 RA r r2 := by
          rw [hr2]
          exact (M1.sF (by decide) _).sF (by decide) _
        have G2 : gG r2 = gG r := by rw [hr2]; exact G1
        have S2 : SR kf T r2 os' (stl 1 os v tr).2.1 (stl 1 os v tr).2.2 := by
          obtain ⟨s1, s2, s3, s8, s47, s48, s49⟩ := S1
          unfold SR
          have hA : gA r2 = gA r1 := by rw [hr2]; rfl
          rw [hA]
          refine ⟨?_, ?_, ?_, ?_, s47.2, s48.2, s49⟩
          · rw [hr2, gF_sF, u1f_ne _ _ (by decide), gF_sF, u1f_eq]
          · rw [hr2, gF_sF, u1f_ne _ _ (by decide), gF_sF, u1f_ne _ _ (by decide)]
            exact s2
          · rw [hr2, gF_sF, u1f_eq]
          · rw [hr2, gF_sF, u1f_ne _ _ (by decide), gF_sF, u1f_ne _ _ (by decide)]
            exact s8
        have C2 : CurR r2 (tk T t) := SR.cur (kf := kf) (T := T) hC M2 G2
        have M2' : ModR RF RA r r2 := M2.mono (by decide) (by decide)
        obtain ⟨r3, E3, C3, M3⟩ := nxR (hLn.mod M2' (by decide) (by decide)) ht1 C2
        have J3 := J2.up (show t ≤ t + 1 by omega)
        obtain ⟨r4, E4, S4, M4, G4⟩ := unaR (t := t + 1) os' _ _ r3 (S2.lf M3) J3
        obtain ⟨J4, p4, h4⟩ := stl_XJ 7 (by omega) _ _ _ J3
        have C4 : CurR r4 (tk T (t + 1)) := SR.cur (kf := kf) (T := T) C3 M4 G4
        have M34 : ModR RF RA r r4 := (M2'.trans (M3.mono (by decide) (by decide))).trans (M4.mono (by decide) (by decide))
        obtain ⟨r5, b, M5, O5, E5⟩ := ih _ _ _ (t + 1) r4 (by omega) ht1 (hLn.mod M34 (by decide) (by decide)) C4 S4 J4 (fun o o' e => by have := h4 o o' e; omega)
        rw [stl_comp (show 6 ≤ 7 by omega)] at O5
        refine ⟨r5, b, M34.trans M5, ?_, fun Q hQ => ?_⟩
        · rcases O5 with O | ⟨o1, o2, o3, o4⟩ | ⟨o1, f', os2, v2, tr2, t2, o2, o3, o4, o5, o6⟩
          · exact Or.inl O
          · exact Or.inr (Or.inl ⟨o1, o2, by omega, o4⟩)
          · exact Or.inr (Or.inr ⟨o1, f', os2, v2, tr2, t2, by omega, o3, o4, by omega, o6⟩)
        · obtain ⟨m, hm⟩ := E5 Q hQ
          refine ⟨m + 1, st41 cc.1 m Q (E1 _ _ Q ?_)⟩
          rw [if_neg Bool.false_ne_true]
          unfold MO_behind_68
          rw [if_neg hxn]
          refine bnd_iff.mpr ?_
          rw [S1.1]
          have e1 : nI ((40, t0) :: os').length - 1 = nI os'.length := nI_pred _
          rw [e1]
          refine bnd_iff.mpr ?_
          rw [gF_sF, u1f_ne _ _ (by decide), S1.2.2.1]
          have e2 : nI (opn ((40, t0) :: os')) - 1 = nI (opn os') := by
            have : opn ((40, t0) :: os') = opn os' + 1 := by
              show (if isO 40 = true then 1 else 0) + opn os' = _
              rw [if_pos (by decide), Nat.add_comm]
            rw [this]
            exact nI_pred _
          rw [e2, ← hr2]
          refine E3 _ ?_
          unfold MO_unaries
          exact E4 _ hm
    · by_cases cb : 0 < lev (tk T t).1 ∧ lev (tk T t).1 < 7
      · have ht1 := more hLx ht (lev_1 cb.1)
        have n41 : ¬ (tk T t).1 = 41 := fun z => by rw [z] at cb; exact absurd cb.1 (by decide)
        have eX : xrun T N here (f + 1) false (stl 6 os v tr).1 (stl 6 os v tr).2.1 (stl 6 os v tr).2.2 t = xrun T N here f true (((tk T t).1, t) :: (stl (lev (tk T t).1) os v tr).1) (stl (lev (tk T t).1) os v tr).2.1 (stl (lev (tk T t).1) os v tr).2.2 (t + 1) := by
          rw [xr_bin (fun z => n41 z.1) cb, cmp _ (by omega)]
        rw [eX]
        have stno := stno n41
        rw [if_neg (show ¬ lev (tk T t).1 = 7 by omega)] at stno
        obtain ⟨r1, out, ⟨M1, G1, F1, S1⟩, E1⟩ := b128 (L := lev (tk T t).1) (by omega) os v tr r hS hJ hN
        rw [if_neg (show ¬ lev (tk T t).1 = 0 by omega)] at F1 S1
        cases out with
        | true =>
          obtain ⟨k, nz, F⟩ := F1 rfl
          refine ⟨r1, 0, M1.mono (by decide) (by decide), Or.inl ⟨rfl, k, by rw [rtr_keep nz]; exact nz, by rw [rtr_keep nz]; exact F⟩, fun Q hQ => ⟨1, stno 0 Q (E1 Q ?_)⟩⟩
          rw [if_pos rfl]
          exact hQ
        | false =>
          have S1 := S1 rfl
          obtain ⟨J1, p1, hh⟩ := stl_XJ (lev (tk T t).1) (by omega) _ _ _ hJ
          have J2 := J1.bin hkd cb.1 cb.2 hh
          have C1 : CurR r1 (tk T t) := SR.cur (kf := kf) (T := T) hC M1 G1
          have hk4 : 4 < (tk T t).1 := by
            have : ∀ k, k < 5 → lev k = 0 := by decide
            by_cases z : (tk T t).1 < 5
            · have := this _ z
              omega
            · omega
          have hrv : rvl (tk T t).1 = nI (ropN (tk T t).1) := by
            have : ∀ k, k < 128 → 0 < lev k → lev k < 7 → rvl k = nI (ropN k) := by decide +kernel
            exact this _ hkd cb.1 cb.2
          have nO : isO (tk T t).1 = false := by
            rw [← Bool.not_eq_true]
            intro z
            rcases (isO_7 _).mp z with e | e
            · rw [e] at cb
              exact absurd cb.1 (by decide)
            · omega
          obtain ⟨r2, E2, M2, G2, S2, -⟩ := pushR S1 C1 J1.1.len.1 hrv
          have C2 : CurR r2 (tk T t) := SR.cur (kf := kf) (T := T) C1 M2 G2
          have M12 : ModR RF RA r r2 := (M1.trans M2).mono (by decide) (by decide)
          obtain ⟨r3, E3, C3, M3⟩ := nxR (hLn.mod M12 (by decide) (by decide)) ht1 C2
          refine ⟨r3, 1, M12.trans (M3.mono (by decide) (by decide)), Or.inr (Or.inr ⟨rfl, f, _, _, _, t + 1, by omega, rfl, by omega, by omega, ht1, J2, (S2 nO).lf M3, C3⟩), fun Q hQ => ⟨1, stno 0 Q (E1 Q ?_)⟩⟩
          rw [if_neg Bool.false_ne_true]
          unfold MO_behind_179
          rw [if_neg (fun z => by have := (nI_eq (a := lev (tk T t).1) (b := 0) (by omega) (by omega)).mp z; omega), C1.2.2.2.2.2.1 hk4]
          exact E2 _ (E3 _ hQ)
      · have p6' : ¬ ((tk T t).1 = 41 ∧ 0 < parn (stl 6 os v tr).1) := by rw [p6]; exact cc
        rw [xr_stop p6' cb]
        have c1 := cmp 1 (by omega)
        have er := rtr_stop (v := (stl 6 os v tr).2.1) (tr := (stl 6 os v tr).2.2) (t := t) J6.1.1 h6
        rw [c1] at er
        by_cases z41 : (tk T t).1 = 41
        · have hxp : x2 < 0 := hx2.mpr (by omega)
          obtain ⟨r1, out, ⟨M1, G1, F1, S1⟩, E1⟩ := b36 os v tr r hS hJ
          refine ⟨r1, 0, M1.mono (by decide) (by decide), ?_, fun Q hQ => ⟨1, st41 z41 0 Q (E1 _ _ Q ?_)⟩⟩
          · cases out with
            | true =>
              obtain ⟨k, nz, F⟩ := F1 rfl
              exact Or.inl ⟨rfl, k, by rw [er]; exact nz, by rw [er]; exact F⟩
            | false =>
              refine Or.inr (Or.inl ⟨rfl, rfl, Nat.le_refl _, ht, SR.cur (kf := kf) (T := T) hC M1 G1, J6, ?_, ?_⟩)
              · rw [er]
                dsimp only
                rw [c1]
              · dsimp only
                rw [c1]
                exact S1 rfl
          · cases out with
            | true =>
              rw [if_pos rfl]
              exact hQ
            | false =>
              rw [if_neg Bool.false_ne_true]
              unfold MO_behind_68
              rw [if_pos hxp]
              exact hQ
        · have stno := stno z41
          have e0 : (if lev (tk T t).1 = 7 then 0 else lev (tk T t).1) = 0 := by
            have := lev_7 (tk T t).1
            split <;> omega
          rw [e0] at stno
          obtain ⟨r1, out, ⟨M1, G1, F1, S1⟩, E1⟩ := b128 (L := 0) (by omega) os v tr r hS hJ hN
          rw [if_pos rfl] at F1 S1
          refine ⟨r1, 0, M1.mono (by decide) (by decide), ?_, fun Q hQ => ⟨1, stno 0 Q (E1 Q ?_)⟩⟩
          · cases out with
            | true =>
              obtain ⟨k, nz, F⟩ := F1 rfl
              exact Or.inl ⟨rfl, k, by rw [er]; exact nz, by rw [er]; exact F⟩
            | false =>
              refine Or.inr (Or.inl ⟨rfl, rfl, Nat.le_refl _, ht, SR.cur (kf := kf) (T := T) hC M1 G1, J6, ?_, ?_⟩)
              · rw [er]
                dsimp only
                rw [c1]
              · dsimp only
                rw [c1]
                exact S1 rfl
          · cases out with
            | true =>
              rw [if_pos rfl]
              exact hQ
            | false =>
              rw [if_neg Bool.false_ne_true]
              unfold MO_behind_179
              rw [if_pos (show nI 0 = 0 from rfl)]
              exact hQ
