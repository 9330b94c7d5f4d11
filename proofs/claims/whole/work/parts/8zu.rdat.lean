/-! The reference's DS, DB, DW -/
theorem spR106 {B : Nat → Nat} {n : Nat} {r : vmD} {T : List Tk} {N : Nt} {sec : Bool} {ho h : Nat} {cs : Cs} {P : Pt} (hS : StR B n r T N sec ho h cs P) (hh : h ≤ 65536) (hp : P.2.1 < 2 ^ 28) {t e k : Nat} (he : e < T.length) (hC : CurR r (tk T e)) (hk : k ≤ 65535) (fill : Int32) : ∃ r' b, (∀ Q : Int32 → vmD → Prop, Q b r' → MO_space_106 (nI (plaT T t)) (nI k) fill r Q) ∧ ModR GRF GRA r r' ∧ OutR (thF (endF T e) (goF T t h k)) b r' (StR B n r' T N sec ho (h + k) cs (ptS sec h (List.replicate k fill) P) ∧ AtE r' T) := by
  obtain ⟨hLn, h20, h42, h8, hCs, hP⟩ := id hS
  have hL := hLn.2.1
  have hke := tk_kd hL e
  by_cases z : (tk T e).1 = 0
  · have k1 : gF r 42 3 = 1 := by
      rw [hC.1]
      exact (rk1 hke).1.mpr z
    have e0 : endF T e = none := if_pos z
    rw [e0, thF_none]
    by_cases g : 65536 < h + k
    · have eg : goF T t h k = some (8, plaT T t) := if_pos g
      obtain ⟨r', E, f, M, -⟩ := wrgR h8 8 (plaT T t)
      refine ⟨r', 0, fun Q hQ => ?_, mod89 M, Or.inr ⟨_, eg, rfl, f⟩⟩
      unfold MO_space_106
      rw [if_pos k1, h20, nI_add, if_pos (show (65536 : Int32) < nI (h + k) from nI_lt (a := 65536) g (by omega))]
      exact E _ ⟨Or.inl rfl, hQ⟩
    · have eg : goF T t h k = none := if_neg g
      have ng : ¬ (65536 : Int32) < nI (h + k) := nI_nlt (a := 65536) (by omega) (by omega)
      cases sec with
      | false =>
        have M2 : ModR [20, 39, 40] [56] r (sF r 42 20 (nI (h + k))) := (ModR.refl _ _ r).sF (by decide) _
        refine ⟨sF r 42 20 (nI (h + k)), 1, fun Q hQ => ?_, modLay M2, Or.inl ⟨eg, rfl, hS.lay M2 ?_ (by rw [gF_sF, u1f_eq]), e, he, z, ?_⟩⟩
        · unfold MO_space_106
          rw [if_pos k1, h20, nI_add, if_neg ng, h42, if_pos (show kb false = 0 from rfl)]
          exact bnd_iff.mpr hQ
        · refine ⟨hP.1, fun q => Bool.noConfusion q⟩
        · rw [M2.2.1 2 (by decide)]
          exact hC.2.2.1
      | true =>
        obtain ⟨r', E, P', g', M⟩ := layN (r0 := r) (x := fill) (k := k) (by omega) k 0 h r P (by omega) hP h20 (by omega) (by omega) (ModR.refl _ _ _)
        refine ⟨r', 1, fun Q hQ => ?_, modLay M, Or.inl ⟨eg, rfl, hS.lay M P' g', e, he, z, ?_⟩⟩
        · unfold MO_space_106
          rw [if_pos k1, h20, nI_add, if_neg ng, h42, if_neg (show ¬ kb true = 0 by decide)]
          exact E Q hQ
        · rw [M.2.1 2 (by decide)]
          exact hC.2.2.1
  · have k1 : ¬ gF r 42 3 = 1 := by
      rw [hC.1]
      exact fun w => z ((rk1 hke).1.mp w)
    have e0 : endF T e = some (rfc T e, plaT T e) := if_neg z
    obtain ⟨r', E, f, M⟩ := rfsR hC h8 hke
    refine ⟨r', 0, fun Q hQ => ?_, mod89 M, Or.inr ⟨_, by rw [e0, thF_some], rfl, f⟩⟩
    unfold MO_space_106
    rw [if_neg k1]
    exact E _ ⟨Or.inl rfl, hQ⟩
theorem wrg30 {r : vmD} (h8 : gF r 42 8 = 0) (p : Nat) : ∃ r', (∀ Q : Int32 → vmD → Prop, Q 0 r' → MO_space_30 (nI p) r Q) ∧ (∀ Q : Int32 → vmD → Prop, Q 0 r' → MO_space_99 (nI p) r Q) ∧ (∀ Q : Int32 → vmD → Prop, Q 0 r' → MO_data_156 (nI p) r Q) ∧ FlR r' (5, p) ∧ ModR [8, 9] [] r r' := by
  obtain ⟨r', E, a, M, -⟩ := wrgR h8 5 p
  refine ⟨r', fun Q hQ => ?_, fun Q hQ => ?_, fun Q hQ => ?_, a, M⟩
  · unfold MO_space_30
    exact E _ ⟨Or.inl rfl, hQ⟩
  · unfold MO_space_99
    exact E _ ⟨Or.inl rfl, hQ⟩
  · unfold MO_data_156
    exact E _ ⟨Or.inl rfl, hQ⟩
theorem spcR {B : Nat → Nat} {n : Nat} {r : vmD} {T : List Tk} {N : Nt} {sec : Bool} {h : Nat} {cs : Cs} {P : Pt} (hS : StR B n r T N sec h h cs P) (hh : h ≤ 65536) (hp : P.2.1 < 2 ^ 28) {t : Nat} (ht : t + 1 < T.length) (hC : CurR r (tk T (t + 1))) (hw : sec = true → spF T N (nI h) t h = none) : SoR B n r T sec h (fun r Q => MO_space (nI (plaT T t)) r Q) (if sec = true then spB T N (nI h) t else spF T N (nI h) t h) N (h + spN T N (nI h) t) cs (ptS sec h (spO T N (nI h) t) P) := by
  obtain ⟨hLn, h20, h42, h8, hCs, hP⟩ := id hS
  have hL := hLn.2.1
  obtain ⟨r1, b1, E1, M1, H1⟩ := xprR true ht hLn hC h8
  rw [if_pos rfl] at H1
  have hw2 : sec = true → nmF T N (nI h) (t + 1) 0 65535 = none ∧ spS T N (nI h) t = none ∧ endF T (spE T N (nI h) t) = none ∧ goF T t h (spN T N (nI h) t) = none := by
    intro z
    obtain ⟨a, b⟩ := thF_eq (hw z)
    obtain ⟨b1, b2⟩ := thF_eq b
    obtain ⟨b3, b4⟩ := thF_eq b2
    exact ⟨a, b1, b3, b4⟩
  -- the first exp's FAULT is the statement's
  have first : ∀ q, nmF T N (nI h) (t + 1) 0 65535 = some q → (if sec = true then spB T N (nI h) t else spF T N (nI h) t h) = some q := by
    intro q e
    cases sec with
    | true =>
      rw [(hw2 rfl).1] at e
      cases e
    | false =>
      rw [if_neg Bool.false_ne_true]
      unfold spF
      rw [e, thF_some]
  have start : ∀ Q : Int32 → vmD → Prop, (if b1 = 0 then (Q 0 r1) else (if gF r1 42 22 < 0 then (MO_space_30 (nI (plaT T (t + 1))) r1 Q) else (if (65535 : Int32) < gF r1 42 22 then (MO_space_30 (nI (plaT T (t + 1))) r1 Q) else (MO_isSign 44 r1 fun r_11 d_10 => if r_11 = 0 then (MO_space_106 (nI (plaT T t)) (gF r1 42 22) 0 d_10 Q) else (MO_next d_10 fun d_24 => bnd (gF d_24 42 4) fun x2_25 => MO_expression (gF d_24 42 42) d_24 fun r_27 d_26 => if r_27 = 0 then (Q 0 d_26) else (bnd (gF d_26 42 22) fun x4_29 => if (gF d_26 42 42) = 0 then (MO_space_106 (nI (plaT T t)) (gF r1 42 22) x4_29 d_26 Q) else (if x4_29 < (-128) then (MO_space_99 x2_25 d_26 Q) else (if (255 : Int32) < x4_29 then (MO_space_99 x2_25 d_26 Q) else (MO_space_106 (nI (plaT T t)) (gF r1 42 22) x4_29 d_26 Q))))))))) → MO_space (nI (plaT T t)) r Q := by
    intro Q hQ
    unfold MO_space
    refine bnd_iff.mpr ?_
    rw [hC.2.1]
    refine E1 _ ?_
    by_cases z : b1 = 0
    · rw [if_pos z] at hQ ⊢
      exact hQ
    · rw [if_neg z] at hQ ⊢
      exact bnd_iff.mpr hQ
  cases eX : xF T N (nI h) (t + 1) with
  | some q =>
    obtain ⟨e0, e1⟩ := H1.bad eX
    refine ⟨r1, 0, fun Q hQ => start Q ?_, modRF M1, Or.inr ⟨q, first q ?_, rfl, e1⟩⟩
    · rw [e0, if_pos rfl]
      exact hQ
    · unfold nmF
      rw [eX, thF_some]
  | none =>
    obtain ⟨e0, hC1, h81, hok, hv⟩ := H1.good eX
    have hv := hv rfl
    have hx := exprLt hL (N := N) (here := nI h) ht
    have hkx := tk_kd hL (xat T N (nI h) (t + 1))
    have hS1 : StR B n r1 T N sec h h cs P := hS.mod M1 h81 (by decide) (by decide)
    have bad : rgF (xvl T N (nI h) (t + 1)) 0 65535 (plaT T (t + 1)) = some (5, plaT T (t + 1)) → (∀ Q : Int32 → vmD → Prop, MO_space_30 (nI (plaT T (t + 1))) r1 Q → MO_space (nI (plaT T t)) r Q) → SoR B n r T sec h (fun r Q => MO_space (nI (plaT T t)) r Q) (if sec = true then spB T N (nI h) t else spF T N (nI h) t h) N (h + spN T N (nI h) t) cs (ptS sec h (spO T N (nI h) t) P) := by
      intro hr hgo
      obtain ⟨r2, E2, -, -, f2, M2⟩ := wrg30 h81 (plaT T (t + 1))
      refine ⟨r2, 0, fun Q hQ => hgo Q (E2 Q hQ), (modRF M1).trans (mod89 M2), Or.inr ⟨(5, plaT T (t + 1)), first _ ?_, rfl, f2⟩⟩
      unfold nmF
      rw [eX, thF_none, hr]
    by_cases g1 : xvl T N (nI h) (t + 1) < 0
    · refine bad (if_pos g1) (fun Q hQ => start Q ?_)
      rw [e0, if_neg (by decide), hv, if_pos g1]
      exact hQ
    · by_cases g2 : (65535 : Int32) < xvl T N (nI h) (t + 1)
      · refine bad ((if_neg g1).trans (if_pos g2)) (fun Q hQ => start Q ?_)
        rw [e0, if_neg (by decide), hv, if_neg g1, if_pos g2]
        exact hQ
      · have eN : nmF T N (nI h) (t + 1) 0 65535 = none := by
          unfold nmF rgF
          rw [eX, thF_none, if_neg g1, if_neg g2]
        obtain ⟨k, hk, ek⟩ := nat_of_le (n := 65535) (N := 65535) rfl (by omega) g1 g2
        have eSp : spN T N (nI h) t = k := by
          unfold spN
          rw [ek, nI_clamp (by omega)]
        have start : ∀ Q : Int32 → vmD → Prop, (if (tk T (xat T N (nI h) (t + 1))).1 = 44 then (MO_next r1 fun d_24 => bnd (gF d_24 42 4) fun x2_25 => MO_expression (gF d_24 42 42) d_24 fun r_27 d_26 => if r_27 = 0 then (Q 0 d_26) else (bnd (gF d_26 42 22) fun x4_29 => if (gF d_26 42 42) = 0 then (MO_space_106 (nI (plaT T t)) (nI k) x4_29 d_26 Q) else (if x4_29 < (-128) then (MO_space_99 x2_25 d_26 Q) else (if (255 : Int32) < x4_29 then (MO_space_99 x2_25 d_26 Q) else (MO_space_106 (nI (plaT T t)) (nI k) x4_29 d_26 Q))))) else (MO_space_106 (nI (plaT T t)) (nI k) 0 r1 Q)) → MO_space (nI (plaT T t)) r Q := by
          intro Q hQ
          refine start Q ?_
          rw [e0, if_neg (by decide), hv, if_neg g1, if_neg g2, show (44 : Int32) = nI 44 from rfl, sign_e hC1 hkx (by omega) (by omega) (by omega) (by omega), ek]
          by_cases z : (tk T (xat T N (nI h) (t + 1))).1 = 44
          · rw [if_pos z] at hQ
            rw [if_pos z, if_neg (by decide)]
            exact hQ
          · rw [if_neg z] at hQ
            rw [if_neg z, if_pos rfl]
            exact hQ
        rw [eSp]
        unfold spO
        rw [eSp]
        by_cases kc : (tk T (xat T N (nI h) (t + 1))).1 = 44
        · have eC : spC T N (nI h) t = true := decide_eq_true kc
          have ht2 : spX T N (nI h) t + 1 < T.length := more hL hx (show 1 < (tk T (xat T N (nI h) (t + 1))).1 by omega)
          obtain ⟨x, hxx⟩ : ∃ x, x = spX T N (nI h) t + 1 := ⟨_, rfl⟩
          have ht2x : x < T.length := by rw [hxx]; exact ht2
          have eE : spE T N (nI h) t = xat T N (nI h) x := by
            unfold spE
            rw [if_pos eC, ← hxx]
          have eS : spS T N (nI h) t = xS T N (nI h) x := by
            unfold spS
            rw [if_pos eC, ← hxx]
          have eB : spB T N (nI h) t = nmF T N (nI h) x (-128) 255 := by
            unfold spB
            rw [if_pos eC, ← hxx]
          have eV : spV T N (nI h) t = xvl T N (nI h) x := by
            unfold spV
            rw [if_pos eC, ← hxx]
          rw [eV]
          obtain ⟨r2, E2, hC2, M2⟩ := nxR hS1.1 (t := xat T N (nI h) (t + 1)) ht2 hC1
          have hC2 : CurR r2 (tk T x) := by rw [hxx]; exact hC2
          have h82 : gF r2 42 8 = 0 := by
            rw [M2.2.1 8 (by decide)]
            exact h81
          have hS2 : StR B n r2 T N sec h h cs P := hS1.mod M2 h82 (by decide) (by decide)
          obtain ⟨r3, b3, E3, M3, H3⟩ := xprR sec ht2x hS2.1 hC2 h82
          have M13 : ModR GRF GRA r r3 := ((modRF M1).trans (modLF M2)).trans (modRF M3)
          have start : ∀ Q : Int32 → vmD → Prop, (if b3 = 0 then (Q 0 r3) else (if (gF r3 42 42) = 0 then (MO_space_106 (nI (plaT T t)) (nI k) (gF r3 42 22) r3 Q) else (if gF r3 42 22 < (-128) then (MO_space_99 (nI (plaT T x)) r3 Q) else (if (255 : Int32) < gF r3 42 22 then (MO_space_99 (nI (plaT T x)) r3 Q) else (MO_space_106 (nI (plaT T t)) (nI k) (gF r3 42 22) r3 Q))))) → MO_space (nI (plaT T t)) r Q := by
            intro Q hQ
            refine start Q ?_
            rw [if_pos kc]
            refine E2 _ (bnd_iff.mpr ?_)
            rw [hC2.2.1, hS2.2.2.1]
            refine E3 _ ?_
            by_cases z : b3 = 0
            · rw [if_pos z] at hQ ⊢
              exact hQ
            · rw [if_neg z] at hQ ⊢
              exact bnd_iff.mpr hQ
          have eF : ∀ G : Fo, (if sec = true then xF T N (nI h) x else xS T N (nI h) x) = G → ∀ q, G = some q → (if sec = true then spB T N (nI h) t else spF T N (nI h) t h) = some q := by
            intro G hG q hq
            subst hG
            cases sec with
            | true =>
              rw [if_pos rfl] at hq ⊢
              rw [eB]
              unfold nmF
              rw [hq, thF_some]
            | false =>
              rw [if_neg Bool.false_ne_true] at hq ⊢
              unfold spF
              rw [eN, thF_none, eS, hq, thF_some]
          cases eG : (if sec = true then xF T N (nI h) x else xS T N (nI h) x) with
          | some q =>
            obtain ⟨f0, f1⟩ := H3.bad eG
            refine ⟨r3, 0, fun Q hQ => start Q ?_, M13, Or.inr ⟨q, eF _ eG q rfl, rfl, f1⟩⟩
            rw [f0, if_pos rfl]
            exact hQ
          | none =>
            obtain ⟨f0, hC3, h83, hok3, hv3⟩ := H3.good eG
            have hx3 := exprLt hL (N := N) (here := nI h) ht2x
            have hS3 : StR B n r3 T N sec h h cs P := hS2.mod M3 h83 (by decide) (by decide)
            cases sec with
            | false =>
              obtain ⟨r4, b4, E4, M4, H4⟩ := spR106 hS3 hh hp (t := t) hx3 hC3 (k := k) (by omega) (gF r3 42 22)
              have e5 : (if false = true then spB T N (nI h) t else spF T N (nI h) t h) = thF (endF T (xat T N (nI h) x)) (goF T t h k) := by
                rw [if_neg Bool.false_ne_true] at eG ⊢
                unfold spF
                rw [eN, thF_none, eS, eG, thF_none, eE, eSp]
              rw [e5]
              refine ⟨r4, b4, fun Q hQ => start Q ?_, M13.trans M4, H4⟩
              rw [f0, if_neg (by decide), hS3.2.2.1, if_pos (show kb false = 0 from rfl)]
              exact E4 Q hQ
            | true =>
              have hv3 := hv3 rfl
              rw [if_pos rfl] at eG
              rw [if_pos rfl, eB]
              obtain ⟨-, w2, w3, w4⟩ := hw2 rfl
              rw [eE] at w3
              rw [eSp] at w4
              have bad3 : rgF (xvl T N (nI h) x) (-128) 255 (plaT T x) = some (5, plaT T x) → (∀ Q : Int32 → vmD → Prop, MO_space_99 (nI (plaT T x)) r3 Q → MO_space (nI (plaT T t)) r Q) → SoR B n r T true h (fun r Q => MO_space (nI (plaT T t)) r Q) (nmF T N (nI h) x (-128) 255) N (h + k) cs (ptS true h (List.replicate k (xvl T N (nI h) x)) P) := by
                intro hr hgo
                obtain ⟨r4, -, E4, -, f4, M4⟩ := wrg30 h83 (plaT T x)
                refine ⟨r4, 0, fun Q hQ => hgo Q (E4 Q hQ), M13.trans (mod89 M4), Or.inr ⟨(5, plaT T x), ?_, rfl, f4⟩⟩
                unfold nmF
                rw [eG, thF_none, hr]
              have start : ∀ Q : Int32 → vmD → Prop, (if xvl T N (nI h) x < (-128) then (MO_space_99 (nI (plaT T x)) r3 Q) else (if (255 : Int32) < xvl T N (nI h) x then (MO_space_99 (nI (plaT T x)) r3 Q) else (MO_space_106 (nI (plaT T t)) (nI k) (xvl T N (nI h) x) r3 Q))) → MO_space (nI (plaT T t)) r Q := by
                intro Q hQ
                refine start Q ?_
                rw [f0, if_neg (by decide), hS3.2.2.1, if_neg (show ¬ kb true = 0 by decide), hv3]
                exact hQ
              by_cases y1 : xvl T N (nI h) x < (-128)
              · exact bad3 (if_pos y1) (fun Q hQ => start Q (by rw [if_pos y1]; exact hQ))
              · by_cases y2 : (255 : Int32) < xvl T N (nI h) x
                · exact bad3 ((if_neg y1).trans (if_pos y2)) (fun Q hQ => start Q (by rw [if_neg y1, if_pos y2]; exact hQ))
                · obtain ⟨r4, b4, E4, M4, H4⟩ := spR106 hS3 hh hp (t := t) hx3 hC3 (k := k) (by omega) (xvl T N (nI h) x)
                  have e5 : nmF T N (nI h) x (-128) 255 = thF (endF T (xat T N (nI h) x)) (goF T t h k) := by
                    unfold nmF rgF
                    rw [eG, thF_none, if_neg y1, if_neg y2, w3, w4]
                    rfl
                  rw [e5]
                  refine ⟨r4, b4, fun Q hQ => start Q ?_, M13.trans M4, H4⟩
                  rw [if_neg y1, if_neg y2]
                  exact E4 Q hQ
        · have eC : ¬ spC T N (nI h) t = true := by
            unfold spC
            rw [decide_eq_true_eq]
            exact kc
          have eE : spE T N (nI h) t = xat T N (nI h) (t + 1) := if_neg eC
          have eS : spS T N (nI h) t = none := if_neg eC
          have eB : spB T N (nI h) t = none := if_neg eC
          have eV : spV T N (nI h) t = 0 := if_neg eC
          rw [eV]
          obtain ⟨r4, b4, E4, M4, H4⟩ := spR106 hS1 hh hp (t := t) hx hC1 (k := k) (by omega) 0
          have e5 : (if sec = true then spB T N (nI h) t else spF T N (nI h) t h) = thF (endF T (xat T N (nI h) (t + 1))) (goF T t h k) := by
            cases sec with
            | true =>
              obtain ⟨-, w2, w3, w4⟩ := hw2 rfl
              rw [eE] at w3
              rw [eSp] at w4
              rw [if_pos rfl, eB, w3, w4]
              rfl
            | false =>
              rw [if_neg Bool.false_ne_true]
              unfold spF
              rw [eN, thF_none, eS, thF_none, eE, eSp]
          rw [e5]
          refine ⟨r4, b4, fun Q hQ => start Q ?_, (modRF M1).trans M4, H4⟩
          rw [if_neg kc]
          exact E4 Q hQ
