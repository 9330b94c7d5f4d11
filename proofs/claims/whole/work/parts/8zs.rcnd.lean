/-! The reference's EQU, IF, ELSE, ENDIF -/
def whS (sec : Bool) : Nat := if sec = true then 2 else 1
theorem tstR {B : Nat → Nat} {n : Nat} {r : vmD} {T : List Tk} {N : Nt} {here : Int32} (hLn : LnR B n r T N here) {t : Nat} (ht : t < T.length) (hk : (tk T t).1 = 2) (good bad : vmD → Prop) (h : if frB N (tk T t).2.2.2 = true then good r else bad r) : MO_isReserved (wOfK (tk T t).2.2.2) r fun r_3 d_2 => if r_3 = 0 then (MO_find (nI (plaT T t)) (nI (tk T t).2.2.1) d_2 fun r_6 d_5 => if r_6 < 0 then (if (gF d_5 42 13) = 200 then (bad d_5) else (good d_5)) else (bad d_5)) else (bad d_2) := by
  have hL := hLn.2.1
  obtain ⟨hg, hm⟩ := (hL.2.2 t ht).2.2.2.2.2.2.2.2 hk
  have hN := hLn.2.2.2.1
  rw [res_e, res_K hg]
  by_cases z : idN (tk T t).2.2.2 = 0
  · rw [if_pos z, if_pos rfl]
    obtain ⟨m, m1, m2, m3, m4, m5, m6⟩ := hm z
    rw [m3]
    refine findR hLn.1 hLn.2.2.1 hN m1 m2 m4 m5 _ ?_
    rw [← m6]
    have h200 := hN.2.1
    by_cases g : fnd (tk T t).2.2.2 N < N.length
    · rw [if_pos g, if_neg (nI_pos (by omega))]
      unfold frB at h
      rw [decide_eq_false (show ¬ ¬ fnd (tk T t).2.2.2 N < N.length from fun q => q g), Bool.false_and, Bool.and_false, if_neg Bool.false_ne_true] at h
      exact h
    · rw [if_neg g, if_pos (by decide), hN.1]
      unfold frB at h
      rw [decide_eq_true z, decide_eq_true g, Bool.true_and, Bool.true_and] at h
      by_cases l : N.length = 200
      · rw [if_pos (show nI N.length = 200 by rw [l]; rfl)]
        rw [decide_eq_false (by omega), if_neg Bool.false_ne_true] at h
        exact h
      · rw [if_neg (show ¬ nI N.length = 200 from fun q => l ((nI_eq (b := 200) (by omega) (by omega)).mp q))]
        rw [decide_eq_true (by omega), if_pos rfl] at h
        exact h
  · rw [if_neg z, if_neg (by decide)]
    unfold frB at h
    rw [decide_eq_false z, Bool.false_and, if_neg Bool.false_ne_true] at h
    exact h
theorem LnR.tell {B : Nat → Nat} {n : Nat} {r r' : vmD} {T : List Tk} {N N' : Nt} {here : Int32} (h : LnR B n r T N here) (M : ModR [13] [44, 45, 46] r r') (hN : FnR r' N') : LnR B n r' T N' here := by
  obtain ⟨h0, h1, h2, h3, h4⟩ := h
  refine ⟨h0, h1, h2.mod M (by decide) (by decide), hN, ?_⟩
  rw [M.2.1 21 (by decide)]
  exact h4
theorem StR.tell {B : Nat → Nat} {n : Nat} {r r' : vmD} {T : List Tk} {N N' : Nt} {sec : Bool} {ho h : Nat} {cs : Cs} {P : Pt} (hS : StR B n r T N sec ho h cs P) (M : ModR [13] [44, 45, 46] r r') (hN : FnR r' N') : StR B n r' T N' sec ho h cs P := by
  obtain ⟨a, b, c, d, e, g⟩ := hS
  refine ⟨a.tell M hN, ?_, ?_, ?_, e.mod M (by decide) (by decide) (by decide), ?_⟩
  · rw [M.2.1 20 (by decide)]
    exact b
  · rw [M.2.1 42 (by decide)]
    exact c
  · rw [M.2.1 8 (by decide)]
    exact d
  · unfold PtR at g ⊢
    rw [M.2.1 39 (by decide), M.2.1 40 (by decide), M.2.2.1 56 (by decide)]
    exact g
/-- a name is added -/
theorem addTR {B : Nat → Nat} {n : Nat} {r : vmD} {T : List Tk} {N : Nt} {sec : Bool} {ho h : Nat} {cs : Cs} {P : Pt} (hS : StR B n r T N sec ho h cs P) {t : Nat} (ht : t < T.length) (hk : (tk T t).1 = 2) (hf : frB N (tk T t).2.2.2 = true) (v : Int32) : ∃ r', (∀ Q : vmD → Prop, Q r' → MO_addName (nI (plaT T t)) (nI (tk T t).2.2.1) v r Q) ∧ StR B n r' T (N ++ [((tk T t).2.2.2, v)]) sec ho h cs P ∧ ModR [13] [44, 45, 46] r r' ∧ gG r' = gG r := by
  obtain ⟨hg, hm⟩ := (hS.1.2.1.2.2 t ht).2.2.2.2.2.2.2.2 hk
  unfold frB at hf
  rw [Bool.and_eq_true, Bool.and_eq_true, decide_eq_true_eq, decide_eq_true_eq, decide_eq_true_eq] at hf
  obtain ⟨m, m1, m2, m3, m4, m5, m6⟩ := hm hf.1
  obtain ⟨r', E, H, M, G⟩ := addR hS.1.1 hS.1.2.2.1 hS.1.2.2.2.1 m1 m2 m4 m5 hf.2.2 v
  rw [← m6] at H
  refine ⟨r', fun Q hQ => ?_, hS.tell M H, M, G⟩
  rw [m3]
  exact E Q hQ
theorem sec42 {sec : Bool} : kb sec = 0 ↔ sec = false := by
  cases sec
  · exact ⟨fun _ => rfl, fun _ => rfl⟩
  · exact ⟨fun q => absurd q (by decide), fun q => Bool.noConfusion q⟩
theorem lblR {B : Nat → Nat} {n : Nat} {r : vmD} {T : List Tk} {N : Nt} {sec : Bool} {ho h : Nat} {cs : Cs} {P : Pt} (hS : StR B n r T N sec ho h cs P) {t : Nat} (ht : t < T.length) (hk : (tk T t).1 = 2) (v : Int32) : ∃ r' b, (∀ Q : Int32 → vmD → Prop, Q b r' → MO_tell (nI (plaT T t)) (nI (tk T t).2.2.1) (wOfK (tk T t).2.2.2) v r Q) ∧ ModR [8, 9, 13] [44, 45, 46] r r' ∧ gG r' = gG r ∧ OutR (frF (whS sec) T N t) b r' (StR B n r' T (tlN (whS sec) T N t v) sec ho h cs P) := by
  have h42 := hS.2.2.1
  cases sec with
  | true =>
    have e1 : frF (whS true) T N t = none := if_neg (fun q => absurd q.1 (by decide))
    have e2 : tlN (whS true) T N t v = N := if_neg (by decide)
    refine ⟨r, 1, fun Q hQ => ?_, ModR.refl _ _ _, rfl, Or.inl ⟨e1, rfl, by rw [e2]; exact hS⟩⟩
    unfold MO_tell
    rw [h42, if_neg (by decide)]
    exact hQ
  | false =>
    have start : ∀ Q : Int32 → vmD → Prop, (if frB N (tk T t).2.2.2 = true then (MO_addName (nI (plaT T t)) (nI (tk T t).2.2.1) v r fun d_11 => Q 1 d_11) else MO_tell_36 (nI (plaT T t)) r Q) → MO_tell (nI (plaT T t)) (nI (tk T t).2.2.1) (wOfK (tk T t).2.2.2) v r Q := by
      intro Q hQ
      unfold MO_tell
      rw [h42, if_pos (show kb false = 0 from rfl)]
      exact tstR hS.1 ht hk (fun d => MO_addName (nI (plaT T t)) (nI (tk T t).2.2.1) v d fun d_11 => Q 1 d_11) (fun d => MO_tell_36 (nI (plaT T t)) d Q) hQ
    by_cases g : frB N (tk T t).2.2.2 = true
    · have e1 : frF (whS false) T N t = none := if_neg (fun q => q.2 g)
      have e2 : tlN (whS false) T N t v = N ++ [((tk T t).2.2.2, v)] := if_pos rfl
      obtain ⟨r', E, S, M, G⟩ := addTR hS ht hk g v
      refine ⟨r', 1, fun Q hQ => start Q ?_, M.mono (by decide) (by decide), G, Or.inl ⟨e1, rfl, by rw [e2]; exact S⟩⟩
      rw [if_pos g]
      exact E _ hQ
    · have e1 : frF (whS false) T N t = some (3, plaT T t) := if_pos ⟨rfl, g⟩
      obtain ⟨r', E, f, M, G⟩ := wrgR hS.2.2.2.1 3 (plaT T t)
      refine ⟨r', 0, fun Q hQ => start Q ?_, M.mono (by decide) (by decide), G, Or.inr ⟨_, e1, rfl, f⟩⟩
      rw [if_neg g]
      unfold MO_tell_36
      exact E _ ⟨Or.inl rfl, hQ⟩
theorem equR {B : Nat → Nat} {n : Nat} {r : vmD} {T : List Tk} {N : Nt} {sec : Bool} {ho h : Nat} {cs : Cs} {P : Pt} (hS : StR B n r T N sec ho h cs P) {t : Nat} (ht : t + 2 < T.length) (hk : (tk T t).1 = 2) (hC : CurR r (tk T (t + 2))) : SoR B n r T sec ho (fun r Q => MO_equal (nI (plaT T t)) (nI (tk T t).2.2.1) (wOfK (tk T t).2.2.2) r Q) (thF (frF (whS sec) T N t) (eqF T N (nI ho) t)) (tlN (whS sec) T N t (xvl T N (nI ho) (t + 2))) h cs P := by
  obtain ⟨hLn, h20, h42, h8, hCs, hP⟩ := id hS
  have hL := hLn.2.1
  by_cases g : frF (whS sec) T N t = none
  · rw [g, thF_none]
    have start : ∀ Q : Int32 → vmD → Prop, MO_equal_41 (nI (plaT T t)) (nI (tk T t).2.2.1) r Q → MO_equal (nI (plaT T t)) (nI (tk T t).2.2.1) (wOfK (tk T t).2.2.2) r Q := by
      intro Q hQ
      unfold MO_equal
      rw [h42]
      cases sec with
      | true =>
        rw [if_neg (by decide)]
        exact hQ
      | false =>
        rw [if_pos (show kb false = 0 from rfl)]
        refine tstR hLn (by omega) hk (fun d => MO_equal_41 (nI (plaT T t)) (nI (tk T t).2.2.1) d Q) (fun d => MO_equal_34 (nI (plaT T t)) d Q) ?_
        by_cases z : frB N (tk T t).2.2.2 = true
        · rw [if_pos z]
          exact hQ
        · have e1 : frF (whS false) T N t = some (3, plaT T t) := if_pos ⟨rfl, z⟩
          rw [e1] at g
          cases g
    obtain ⟨r1, b1, E1, M1, H1⟩ := xprR true ht hLn hC h8
    rw [if_pos rfl] at H1
    cases eX : xF T N (nI ho) (t + 2) with
    | some q =>
      obtain ⟨e0, e1⟩ := H1.bad eX
      have eF : eqF T N (nI ho) t = some q := by
        unfold eqF
        rw [eX]
        rfl
      refine ⟨r1, 0, fun Q hQ => start Q ?_, modRF M1, Or.inr ⟨q, eF, rfl, e1⟩⟩
      unfold MO_equal_41
      refine E1 _ ?_
      rw [e0, if_pos rfl]
      exact hQ
    | none =>
      obtain ⟨e0, hC1, h81, hok, hv⟩ := H1.good eX
      have hv := hv rfl
      have hx := exprLt hL (N := N) (here := nI ho) ht
      have hkx := tk_kd hL (xat T N (nI ho) (t + 2))
      have hS1 : StR B n r1 T N sec ho h cs P := hS.mod M1 h81 (by decide) (by decide)
      -- behind the exp
      obtain ⟨r2, E2, S2, M2, G2⟩ : ∃ r2, (∀ Q : Int32 → vmD → Prop, MO_equal_68 r2 Q → MO_equal_41 (nI (plaT T t)) (nI (tk T t).2.2.1) r Q) ∧ StR B n r2 T (tlN (whS sec) T N t (xvl T N (nI ho) (t + 2))) sec ho h cs P ∧ ModR [13] [44, 45, 46] r1 r2 ∧ gG r2 = gG r1 := by
        cases sec with
        | true =>
          refine ⟨r1, fun Q hQ => ?_, ?_, ModR.refl _ _ _, rfl⟩
          · unfold MO_equal_41
            refine E1 _ ?_
            rw [e0, if_neg (by decide), hS1.2.2.1, if_neg (by decide)]
            exact hQ
          · have e2 : tlN (whS true) T N t (xvl T N (nI ho) (t + 2)) = N := if_neg (by decide)
            rw [e2]
            exact hS1
        | false =>
          have z : frB N (tk T t).2.2.2 = true := Decidable.byContradiction fun z => by
            have e1 : frF (whS false) T N t = some (3, plaT T t) := if_pos ⟨rfl, z⟩
            rw [e1] at g
            cases g
          obtain ⟨r2, E2, S2, M2, G2⟩ := addTR hS1 (t := t) (by omega) hk z (xvl T N (nI ho) (t + 2))
          refine ⟨r2, fun Q hQ => ?_, S2, M2, G2⟩
          unfold MO_equal_41
          refine E1 _ ?_
          rw [e0, if_neg (by decide), hS1.2.2.1, if_pos (show kb false = 0 from rfl), hv]
          exact E2 _ hQ
      have hC2 : CurR r2 (tk T (xat T N (nI ho) (t + 2))) := hC1.mod M2 (by decide) (by decide) (by decide) (by decide) (by decide) (by rw [G2])
      have M12 : ModR GRF GRA r r2 := (modRF M1).trans (M2.mono (by decide) (by decide))
      have eF : eqF T N (nI ho) t = endF T (xat T N (nI ho) (t + 2)) := by
        unfold eqF
        rw [eX, thF_none]
      rw [eF]
      by_cases z : (tk T (xat T N (nI ho) (t + 2))).1 = 0
      · have k1 : gF r2 42 3 = 1 := by
          rw [hC2.1]
          exact (rk1 hkx).1.mpr z
        refine ⟨r2, 1, fun Q hQ => start Q (E2 Q ?_), M12, Or.inl ⟨if_pos z, rfl, S2, _, hx, z, hC2.2.2.1⟩⟩
        unfold MO_equal_68
        rw [if_pos k1]
        exact hQ
      · have k1 : ¬ gF r2 42 3 = 1 := by
          rw [hC2.1]
          exact fun w => z ((rk1 hkx).1.mp w)
        obtain ⟨r3, E3, f3, M3⟩ := rfsR hC2 S2.2.2.2.1 hkx
        refine ⟨r3, 0, fun Q hQ => start Q (E2 Q ?_), M12.trans (mod89 M3), Or.inr ⟨_, if_neg z, rfl, f3⟩⟩
        unfold MO_equal_68
        rw [if_neg k1]
        refine E3 _ ?_
        rw [if_pos rfl]
        exact hQ
  · obtain ⟨q, hq⟩ : ∃ q, frF (whS sec) T N t = some q := by
      cases e : frF (whS sec) T N t with
      | none => exact absurd e g
      | some q => exact ⟨q, rfl⟩
    have hz : sec = false ∧ ¬ frB N (tk T t).2.2.2 = true := by
      unfold frF at g
      by_cases w : whS sec = 1 ∧ ¬ frB N (tk T t).2.2.2 = true
      · refine ⟨?_, w.2⟩
        cases sec with
        | false => rfl
        | true => exact absurd w.1 (by decide)
      · rw [if_neg w] at g
        exact absurd rfl g
    have eq3 : q = (3, plaT T t) := by
      have e1 : frF (whS sec) T N t = some (3, plaT T t) := if_pos ⟨by rw [hz.1]; rfl, hz.2⟩
      rw [e1] at hq
      exact (Option.some.inj hq).symm
    obtain ⟨r', E, f, M, G⟩ := wrgR h8 3 (plaT T t)
    refine ⟨r', 0, fun Q hQ => ?_, mod89 M, Or.inr ⟨q, by rw [hq, thF_some], rfl, by rw [eq3]; exact f⟩⟩
    show MO_equal (nI (plaT T t)) (nI (tk T t).2.2.1) (wOfK (tk T t).2.2.2) r Q
    unfold MO_equal
    rw [h42, hz.1, if_pos (show kb false = 0 from rfl)]
    refine tstR hLn (by omega) hk (fun d => MO_equal_41 (nI (plaT T t)) (nI (tk T t).2.2.1) d Q) (fun d => MO_equal_34 (nI (plaT T t)) d Q) ?_
    rw [if_neg hz.2]
    unfold MO_equal_34
    exact E _ ⟨Or.inl rfl, hQ⟩
/-- ELSE, ENDIF, in lines that are done (sk false) and others -/
theorem trnR {r : vmD} {cs : Cs} (hCs : CsR r cs) (h8 : gF r 42 8 = 0) {w p : Nat} {W : Int64} (hw : w = 105 ∨ w = 106) (hW : lg_cmp W 1162629957 = 0 ↔ w = 105) (sk : Bool) (T : List Tk) (x : Nat) (hx : sk = false → CurR r (tk T x) ∧ (tk T x).1 < 128) (y : Bool) : ∃ r' b, (∀ Q : Int32 → vmD → Prop, Q b r' → MO_turn (nI p) W (kb sk) r Q) ∧ ModR [8, 9, 45] [57, 58] r r' ∧ OutR (if alw w cs = true then (if sk = true then none else endF T x) else some (7, p)) b r' (CsR r' (pas w y cs) ∧ gF r' 42 8 = 0) := by
  obtain ⟨h1, h2, h3, h4⟩ := id hCs
  have n104 : ¬ w = 104 := by omega
  have wr : (if alw w cs = true then (if sk = true then none else endF T x) else some (7, p)) = some (7, p) → (∀ Q : Int32 → vmD → Prop, (MO_wrong 7 (nI p) r fun r_3 d_2 => (r_3 = 0 ∨ r_3 = 1) ∧ Q r_3 d_2) → MO_turn (nI p) W (kb sk) r Q) → ∃ r' b, (∀ Q : Int32 → vmD → Prop, Q b r' → MO_turn (nI p) W (kb sk) r Q) ∧ ModR [8, 9, 45] [57, 58] r r' ∧ OutR (if alw w cs = true then (if sk = true then none else endF T x) else some (7, p)) b r' (CsR r' (pas w y cs) ∧ gF r' 42 8 = 0) := by
    intro e hgo
    obtain ⟨r', E, f, M, -⟩ := wrgR h8 7 p
    exact ⟨r', 0, fun Q hQ => hgo Q (E _ ⟨Or.inl rfl, hQ⟩), M.mono (by decide) (by decide), Or.inr ⟨_, e, rfl, f⟩⟩
  cases cs with
  | nil =>
    have ea : alw w [] = false := if_neg n104
    refine wr (by rw [ea]; exact if_neg Bool.false_ne_true) (fun Q hQ => ?_)
    unfold MO_turn
    rw [h1, if_pos (show nI ([] : Cs).length = 0 from rfl)]
    exact hQ
  | cons s l =>
    rw [List.length_cons] at h1 h2
    have g57 : gA r 57 l.length = kb s.1 := by
      have : gA r 57 (l.map (fun x => kb x.1)).length = kb s.1 := h3.1
      rw [List.length_map] at this
      exact this
    have g58 : gA r 58 l.length = kb s.2 := by
      have : gA r 58 (l.map (fun x => kb x.2)).length = kb s.2 := h4.1
      rw [List.length_map] at this
      exact this
    have ea : alw w (s :: l) = (decide (w = 106) || !s.2) := if_neg n104
    have ne0 : ¬ nI (l.length + 1) = 0 := nI_ne0 (by omega) (by omega)
    -- to the turn itself
    have st : ∀ Q : Int32 → vmD → Prop, (if alw w (s :: l) = true then MO_turn_57 (kb sk) (kb (decide (w = 105))) r Q else (MO_wrong 7 (nI p) r fun r_3 d_2 => (r_3 = 0 ∨ r_3 = 1) ∧ Q r_3 d_2)) → MO_turn (nI p) W (kb sk) r Q := by
      intro Q hQ
      unfold MO_turn
      rw [h1, if_neg ne0]
      by_cases z : w = 105
      · rw [if_pos (hW.mpr z)]
        rw [ea, decide_eq_false (by omega), Bool.false_or, decide_eq_true z] at hQ
        unfold MO_turn_28
        rw [if_neg (by decide), h1, nI_pred]
        refine ⟨nI_in (by omega) (by omega), bnd_iff.mpr ?_⟩
        rw [nI_clamp (by omega), g58]
        cases e : s.2 with
        | false =>
          rw [e] at hQ
          rw [if_pos (show kb false = 0 from rfl)]
          rw [if_pos (show (!false) = true from rfl)] at hQ
          exact hQ
        | true =>
          rw [e] at hQ
          rw [if_neg (show ¬ kb true = 0 by decide)]
          rw [if_neg (show ¬ (!true) = true by decide)] at hQ
          exact hQ
      · rw [if_neg (fun q => z (hW.mp q))]
        rw [ea, decide_eq_true (by omega), Bool.true_or, if_pos rfl, decide_eq_false z] at hQ
        unfold MO_turn_28
        rw [if_pos rfl]
        exact hQ
    by_cases ha : alw w (s :: l) = true
    · rw [if_pos ha]
      have st : ∀ Q : Int32 → vmD → Prop, MO_turn_57 (kb sk) (kb (decide (w = 105))) r Q → MO_turn (nI p) W (kb sk) r Q := fun Q hQ => st Q (by rw [if_pos ha]; exact hQ)
      -- the turn
      obtain ⟨r', E', M', C', f8⟩ : ∃ r', (∀ Q : Int32 → vmD → Prop, Q 1 r' → MO_turn_75 (kb (decide (w = 105))) r Q) ∧ ModR [8, 9, 45] [57, 58] r r' ∧ CsR r' (pas w y (s :: l)) ∧ gF r' 42 8 = 0 := by
        by_cases z : w = 105
        · have ep : pas w y (s :: l) = (!s.1, true) :: l := by
            rw [z]
            rfl
          rw [ep, decide_eq_true z]
          refine ⟨sA (sA r 57 l.length (kb (!s.1))) 58 l.length (kb true), fun Q hQ => ?_, ((ModR.refl _ _ r).sA (by decide) _ _).sA (by decide) _ _, ⟨?_, h2, ⟨?_, ?_⟩, ⟨?_, ?_⟩⟩, ?_⟩
          · unfold MO_turn_75
            rw [if_neg (by decide), h1, nI_pred]
            refine ⟨nI_in (by omega) (by omega), bnd_iff.mpr ?_⟩
            rw [nI_clamp (by omega), g57]
            have e109 : ∀ b : Bool, b = !s.1 → MO_turn_109 (kb b) (nI l.length) r Q := by
              intro b hb
              subst hb
              unfold MO_turn_109
              refine ⟨nI_in (by omega) (by omega), bnd_iff.mpr ?_⟩
              rw [gF_sA, h1, nI_pred]
              refine ⟨nI_in (by omega) (by omega), bnd_iff.mpr ?_⟩
              rw [nI_clamp (by omega), kb_and]
              exact hQ
            cases e : s.1 with
            | false =>
              rw [if_pos (show kb false = 0 from rfl)]
              exact e109 true (by rw [e]; rfl)
            | true =>
              rw [if_neg (show ¬ kb true = 0 by decide)]
              exact e109 false (by rw [e]; rfl)
          · rw [gF_sA, gF_sA]
            exact h1
          · show gA _ 57 (l.map (fun x => kb x.1)).length = kb (!s.1)
            rw [List.length_map, gA_sA_ne _ _ _ (by decide), gA_sA, u1f_eq]
          · rw [gA_sA_ne _ _ _ (by decide), gA_sA]
            exact h3.2.upd _ (by rw [List.length_map]; exact Nat.le_refl _)
          · show gA _ 58 (l.map (fun x => kb x.2)).length = kb true
            rw [List.length_map, gA_sA, u1f_eq]
          · rw [gA_sA, gA_sA_ne _ _ _ (by decide)]
            exact h4.2.upd _ (by rw [List.length_map]; exact Nat.le_refl _)
          · rw [gF_sA, gF_sA]
            exact h8
        · have e6 : w = 106 := by omega
          have ep : pas w y (s :: l) = l := by
            rw [e6]
            rfl
          rw [ep, decide_eq_false z]
          refine ⟨sF r 42 45 (nI l.length), fun Q hQ => ?_, (ModR.refl _ _ r).sF (by decide) _, ⟨?_, by omega, h3.2, h4.2⟩, ?_⟩
          · unfold MO_turn_75
            rw [if_pos (show kb false = 0 from rfl), h1, nI_pred]
            exact bnd_iff.mpr hQ
          · rw [gF_sF, u1f_eq]
          · rw [gF_sF, u1f_ne _ _ (by decide)]
            exact h8
      cases sk with
      | true =>
        rw [if_pos rfl]
        refine ⟨r', 1, fun Q hQ => st Q ?_, M', Or.inl ⟨rfl, rfl, C', f8⟩⟩
        unfold MO_turn_57
        rw [if_neg (show ¬ kb true = 0 by decide)]
        exact E' Q hQ
      | false =>
        rw [if_neg Bool.false_ne_true]
        obtain ⟨hC, hk⟩ := hx rfl
        by_cases z : (tk T x).1 = 0
        · have k1 : gF r 42 3 = 1 := by
            rw [hC.1]
            exact (rk1 hk).1.mpr z
          refine ⟨r', 1, fun Q hQ => st Q ?_, M', Or.inl ⟨if_pos z, rfl, C', f8⟩⟩
          unfold MO_turn_57
          rw [if_pos (show kb false = 0 from rfl), if_pos k1]
          exact E' Q hQ
        · have k1 : ¬ gF r 42 3 = 1 := by
            rw [hC.1]
            exact fun q => z ((rk1 hk).1.mp q)
          obtain ⟨r2, E2, f2, M2⟩ := rfsR hC h8 hk
          refine ⟨r2, 0, fun Q hQ => st Q ?_, M2.mono (by decide) (by decide), Or.inr ⟨_, if_neg z, rfl, f2⟩⟩
          unfold MO_turn_57
          rw [if_pos (show kb false = 0 from rfl), if_neg k1]
          exact E2 _ ⟨Or.inl rfl, hQ⟩
    · refine wr (if_neg ha) (fun Q hQ => st Q ?_)
      rw [if_neg ha]
      exact hQ
