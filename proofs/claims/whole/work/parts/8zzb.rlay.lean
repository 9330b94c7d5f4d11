/-! The reference lays an instruction -/
theorem layI {r : vmD} {P : Pt} {h x : Nat} {x2 : Int32} (hP : PtR true r P) (h20 : gF r 42 20 = nI h) (hA : agP x (gF r 42)) (hx : x < 1792) (hlen : h + (refL x (gF r 42 55) (gF r 42 56) (gF r 42 57)).length ≤ 65536) (hp : P.2.1 < 2 ^ 28) : ∃ r', (∀ Q : Int32 → vmD → Prop, Q 1 r' → liT x2 r Q) ∧ PtR true r' (ptL h (refL x (gF r 42 55) (gF r 42 56) (gF r 42 57)) P) ∧ gF r' 42 20 = nI (h + (refL x (gF r 42 55) (gF r 42 56) (gF r 42 57)).length) ∧ ModR [2, 55, 20, 39, 40] [56] r r' ∧ gF r' 42 2 = x2 := by
  obtain ⟨A1, A2, A3, A4, A5, A6, A7⟩ := id hA
  obtain ⟨v, hv⟩ : ∃ v, v = gF r 42 55 := ⟨_, rfl⟩
  obtain ⟨d56, h56⟩ : ∃ d, d = gF r 42 56 := ⟨_, rfl⟩
  obtain ⟨d57, h57⟩ : ∃ d, d = gF r 42 57 := ⟨_, rfl⟩
  rw [← hv, ← h56, ← h57] at hlen ⊢
  obtain ⟨g, hg⟩ : ∃ g, g = x / 256 := ⟨_, rfl⟩
  obtain ⟨mv, hmv⟩ : ∃ m, m = mvI (shF x 0) (shF x 1) := ⟨_, rfl⟩
  obtain ⟨bk, hbk⟩ : ∃ m, m = bkI (shF x 0) + bkI (shF x 1) := ⟨_, rfl⟩
  obtain ⟨pk, hpk⟩ : ∃ m, m = pkI (shF x 0) := ⟨_, rfl⟩
  unfold refL at hlen ⊢
  rw [← hg] at A1 A2
  rw [← hmv] at A4
  rw [← hbk] at A5
  rw [← hpk] at A6
  rw [← hg, ← hmv, ← hbk, ← hpk] at hlen ⊢
  -- the state in front of the first
  obtain ⟨r1, hr1⟩ : ∃ r1, r1 = (if pk = 3 then sF (sF r 42 2 x2) 42 55 (d55V pk v) else sF r 42 2 x2) := ⟨_, rfl⟩
  have M1 : ModR [2, 55, 20, 39, 40] [56] r r1 := by
    rw [hr1]
    split
    · exact ((ModR.refl _ _ r).sF (by decide) _).sF (by decide) _
    · exact (ModR.refl _ _ r).sF (by decide) _
  have f2 : gF r1 42 2 = x2 := by
    rw [hr1]
    split
    · rw [gF_sF, u1f_ne _ _ (by decide), gF_sF, u1f_eq]
    · rw [gF_sF, u1f_eq]
  have f55 : gF r1 42 55 = d55V pk v := by
    rw [hr1]
    by_cases z : pk = 3
    · rw [if_pos z, gF_sF, u1f_eq]
    · rw [if_neg z, gF_sF, u1f_ne _ _ (by decide), ← hv]
      exact (if_neg z).symm
  have hA1 : gA r1 = gA r := by
    rw [hr1]
    split
    · rfl
    · rfl
  have fk : ∀ f, ¬ f = 2 → ¬ f = 55 → gF r1 42 f = gF r 42 f := by
    intro f q1 q2
    rw [hr1]
    split
    · rw [gF_sF, u1f_ne _ _ q2, gF_sF, u1f_ne _ _ q1]
    · rw [gF_sF, u1f_ne _ _ q1]
  have hP1 : PtR true r1 P := by
    unfold PtR at hP ⊢
    rw [hA1, fk 39 (by decide) (by decide), fk 40 (by decide) (by decide)]
    exact hP
  have start : ∀ Q : Int32 → vmD → Prop, MO_layInstruction_71 r1 Q → liT x2 r Q := by
    intro Q hQ
    unfold liT
    refine bnd_iff.mpr ?_
    rw [gF_sF, u1f_ne _ _ (by decide), u1f_ne _ _ (by decide), A6, ← hv]
    by_cases z : pk = 3
    · rw [if_pos z]
      rw [hr1, if_pos z] at hQ
      unfold d55V at hQ
      rw [if_pos z] at hQ
      by_cases y : v = 0
      · rw [if_pos y] at hQ ⊢
        unfold MO_layInstruction_68
        exact bnd_iff.mpr hQ
      · rw [if_neg y] at hQ ⊢
        unfold MO_layInstruction_68
        exact bnd_iff.mpr hQ
    · rw [if_neg z]
      rw [hr1, if_neg z] at hQ
      exact hQ
  -- fields that stay
  have fx : ∀ (r' : vmD), ModR [20, 39, 40] [56] r1 r' → gF r' 42 29 = frG g ∧ gF r' 42 30 = mdG g ∧ gF r' 42 31 = nI (x % 256) ∧ gF r' 42 36 = mv ∧ gF r' 42 32 = bk ∧ gF r' 42 34 = pk ∧ gF r' 42 55 = d55V pk v ∧ gF r' 42 56 = d56 ∧ gF r' 42 57 = d57 := by
    intro r' M
    rw [M.2.1 29 (by decide), M.2.1 30 (by decide), M.2.1 31 (by decide), M.2.1 36 (by decide), M.2.1 32 (by decide), M.2.1 34 (by decide), M.2.1 55 (by decide), M.2.1 56 (by decide), M.2.1 57 (by decide), fk 29 (by decide) (by decide), fk 30 (by decide) (by decide), fk 31 (by decide) (by decide), fk 36 (by decide) (by decide), fk 32 (by decide) (by decide), fk 34 (by decide) (by decide), f55, fk 56 (by decide) (by decide), fk 57 (by decide) (by decide)]
    exact ⟨A1, A2, A3, A4, A5, A6, rfl, h56.symm, h57.symm⟩
  have len1 : ∀ (c : Prop) [Decidable c] (y : Int32), (c → (if c then [y] else []).length = 1) ∧ (if c then [y] else []).length ≤ 1 := by
    intro c _ y
    by_cases z : c
    · rw [if_pos z]
      exact ⟨fun _ => rfl, Nat.le_refl _⟩
    · rw [if_neg z]
      exact ⟨fun q => absurd q z, Nat.zero_le _⟩
  have h201 : gF r1 42 20 = nI h := (fk 20 (by decide) (by decide)).trans h20
  obtain ⟨L1, hL1⟩ : ∃ L, L = (if 0 < frG g then [frG g] else []) := ⟨_, rfl⟩
  obtain ⟨L2, hL2⟩ : ∃ L, L = (if 0 < mdG g then [mdG g] else []) := ⟨_, rfl⟩
  obtain ⟨L3, hL3⟩ : ∃ L, L = (if ¬ mv < 0 ∧ 0 < mdG g then [d56] else []) := ⟨_, rfl⟩
  obtain ⟨L5, hL5⟩ : ∃ L, L = (if ¬ mv < 0 ∧ mdG g = 0 then [d56] else []) := ⟨_, rfl⟩
  obtain ⟨L6, hL6⟩ : ∃ L, L = (if 0 < bk then [d57] else []) := ⟨_, rfl⟩
  obtain ⟨L7, hL7⟩ : ∃ L, L = (if bk = 2 then [d57 >>> ((8 : Int32) &&& 31)] else []) := ⟨_, rfl⟩
  have l1 := len1 (0 < frG g) (frG g)
  have l2 := len1 (0 < mdG g) (mdG g)
  have l3 := len1 (¬ mv < 0 ∧ 0 < mdG g) d56
  have l5 := len1 (¬ mv < 0 ∧ mdG g = 0) d56
  have l6 := len1 (0 < bk) d57
  have l7 := len1 (bk = 2) (d57 >>> ((8 : Int32) &&& 31))
  rw [← hL1] at l1 hlen ⊢
  rw [← hL2] at l2 hlen ⊢
  rw [← hL3] at l3 hlen ⊢
  rw [← hL5] at l5 hlen ⊢
  rw [← hL6] at l6 hlen ⊢
  rw [← hL7] at l7 hlen ⊢
  rw [List.length_append, List.length_append, List.length_append, List.length_append, List.length_append, List.length_append] at hlen
  have hlen : h + (L1.length + (L2.length + (L3.length + (1 + (L5.length + (L6.length + L7.length)))))) ≤ 65536 := hlen
  have pc : ∀ (a : Nat) (l : List Int32) (P1 : Pt), (ptL a l P1).2.1 = P1.2.1 + l.length := fun _ _ _ => rfl
  -- seven steps
  obtain ⟨s1, E1, P1, g1, N1⟩ := optL (r0 := r1) (0 < frG g) (frG g) hP1 h201 (fun c => by have := l1.1 c; omega) (by omega) (ModR.refl _ _ _)
  rw [← hL1] at P1 g1
  obtain ⟨s2, E2, P2, g2, N2⟩ := optL (r0 := r1) (0 < mdG g) (mdG g) P1 g1 (fun c => by have := l2.1 c; omega) (by rw [pc]; omega) N1
  rw [← hL2] at P2 g2
  obtain ⟨s3, E3, P3, g3, N3⟩ := optL (r0 := r1) (¬ mv < 0 ∧ 0 < mdG g) d56 P2 g2 (fun c => by have := l3.1 c; omega) (by rw [pc, pc]; omega) N2
  rw [← hL3] at P3 g3
  obtain ⟨s4, E4, P4, g4, N4, -⟩ := layR P3 g3 (by omega) (by rw [pc, pc, pc]; omega) (opcV (x % 256) pk v)
  have N4 := N3.trans N4
  obtain ⟨s5, E5, P5, g5, N5⟩ := optL (r0 := r1) (¬ mv < 0 ∧ mdG g = 0) d56 P4 g4 (fun c => by have := l5.1 c; omega) (by rw [pc, pc, pc, pc]; show P.2.1 + L1.length + L2.length + L3.length + 1 < _; omega) N4
  rw [← hL5] at P5 g5
  obtain ⟨s6, E6, P6, g6, N6⟩ := optL (r0 := r1) (0 < bk) d57 P5 g5 (fun c => by have := l6.1 c; omega) (by rw [pc, pc, pc, pc, pc]; show P.2.1 + L1.length + L2.length + L3.length + 1 + L5.length < _; omega) N5
  rw [← hL6] at P6 g6
  obtain ⟨s7, E7, P7, g7, N7⟩ := optL (r0 := r1) (bk = 2) (d57 >>> ((8 : Int32) &&& 31)) P6 g6 (fun c => by have := l7.1 c; omega) (by rw [pc, pc, pc, pc, pc, pc]; show P.2.1 + L1.length + L2.length + L3.length + 1 + L5.length + L6.length < _; omega) N6
  rw [← hL7] at P7 g7
  refine ⟨s7, fun Q hQ => start Q ?_, ?_, ?_, M1.trans (N7.mono (by decide) (by decide)), (N7.2.1 2 (by decide)).trans f2⟩
  · obtain ⟨a29, -⟩ := fx r1 (ModR.refl _ _ _)
    obtain ⟨-, b30, -⟩ := fx s1 N1
    obtain ⟨-, c30, -, c36, -, -, -, c56, -⟩ := fx s2 N2
    obtain ⟨-, -, d31, -, -, d34, d55, -⟩ := fx s3 N3
    obtain ⟨-, e30, -, e36, -, -, -, e56, -⟩ := fx s4 N4
    obtain ⟨-, -, -, -, f32, -, -, -, f57⟩ := fx s5 N5
    obtain ⟨-, -, -, -, g32, -, -, -, g57⟩ := fx s6 N6
    unfold MO_layInstruction_71
    rw [a29]
    refine E1 (fun d => MO_layInstruction_86 d Q) ?_
    show MO_layInstruction_86 s1 Q
    unfold MO_layInstruction_86
    rw [b30]
    refine E2 (fun d => MO_layInstruction_101 d Q) ?_
    show MO_layInstruction_101 s2 Q
    have q123 : MO_layInstruction_123 s3 Q := by
      have q166 : ∀ y : Int32, y = opcV (x % 256) pk v → (MO_lay y s3 fun d_19 => if (gF d_19 42 36) < 0 then (MO_layInstruction_192 d_19 Q) else (if (gF d_19 42 30) = 0 then (MO_lay (gF d_19 42 56) d_19 fun d_26 => MO_layInstruction_192 d_26 Q) else (MO_layInstruction_192 d_19 Q))) := by
        intro y hy
        subst hy
        refine E4 _ ?_
        rw [e36, e30, e56]
        have q192 : MO_layInstruction_192 s5 Q := by
          unfold MO_layInstruction_192
          rw [f32, f57]
          refine E6 (fun d => MO_layInstruction_207 d Q) ?_
          show MO_layInstruction_207 s6 Q
          unfold MO_layInstruction_207
          rw [g32, g57]
          exact E7 (fun d => Q 1 d) hQ
        have := E5 (fun d => MO_layInstruction_192 d Q) q192
        by_cases z : mv < 0
        · rw [if_neg (show ¬ (¬ mv < 0 ∧ mdG g = 0) from fun q => q.1 z)] at this
          rw [if_pos z]
          exact this
        · rw [if_neg z]
          by_cases y : mdG g = 0
          · rw [if_pos ⟨z, y⟩] at this
            rw [if_pos y]
            exact this
          · rw [if_neg (show ¬ (¬ mv < 0 ∧ mdG g = 0) from fun q => y q.2)] at this
            rw [if_neg y]
            exact this
      unfold MO_layInstruction_123
      by_cases z : pk = 2
      · rw [d34, if_pos z, d31, d55]
        unfold MO_layInstruction_148
        rw [d34, if_pos z, d55]
        unfold MO_layInstruction_166
        refine q166 _ ?_
        unfold opcV
        rw [if_pos z, if_pos z]
      · rw [d34, if_neg z, d31, d55]
        unfold MO_layInstruction_148
        rw [d34, if_neg z]
        unfold MO_layInstruction_166
        refine q166 _ ?_
        unfold opcV
        rw [if_neg z, if_neg z]
    unfold MO_layInstruction_101
    rw [c36, c30, c56]
    have := E3 (fun d => MO_layInstruction_123 d Q) q123
    by_cases z : mv < 0
    · rw [if_neg (show ¬ (¬ mv < 0 ∧ 0 < mdG g) from fun q => q.1 z)] at this
      rw [if_pos z]
      exact this
    · rw [if_neg z]
      by_cases y : 0 < mdG g
      · rw [if_pos ⟨z, y⟩] at this
        rw [if_pos y]
        exact this
      · rw [if_neg (show ¬ (¬ mv < 0 ∧ 0 < mdG g) from fun q => y q.2)] at this
        rw [if_neg y]
        exact this
  · rw [ptL_app, ptL_app, ptL_app, ptL_app, ptL_app, ptL_app]
    exact P7
  · rw [g7, List.length_append, List.length_append, List.length_append, List.length_append, List.length_append, List.length_append]
    show nI (h + L1.length + L2.length + L3.length + 1 + L5.length + L6.length + L7.length) = nI (h + (L1.length + (L2.length + (L3.length + (1 + (L5.length + (L6.length + L7.length)))))))
    exact congrArg nI (by omega)
theorem fi_of {T : List Tk} {N : Nt} {here : Int32} {p h x i : Nat} (hi : i < lsN T N here p) (hF : thF (opA T N here p i) (opR T N here p h x i) = none) (hq : ∃ q, oFr T (lsT T N here p i) = some q) : fiI (shF x i) (cvI T N here p h x i) = true := by
  obtain ⟨q, hq⟩ := hq
  obtain ⟨a, b⟩ := thF_eq hF
  unfold opA at a
  unfold opR at b
  rw [if_pos hi, hq] at a b
  dsimp only at a b
  have z0 : (xtr T N here q).1 = 0 := by
    unfold xT at a
    by_cases z : (xtr T N here q).1 = 0
    · exact z
    · rw [if_neg z] at a
      cases a
  by_cases y : fiI (shF x i) (cvI T N here p h x i) = true
  · exact y
  · rw [if_pos ⟨z0, y⟩] at b
    cases b
theorem modROF {r r' : vmD} (h : ModR ROF ROA r r') : ModR GRF GRA r r' := h.mono (by decide) (by decide)
theorem insR {B : Nat → Nat} {n : Nat} {r : vmD} {T : List Tk} {N : Nt} {sec : Bool} {h : Nat} {cs : Cs} {P : Pt} (hS : StR B n r T N sec h h cs P) (hh : h ≤ 65536) (hp : P.2.1 < 2 ^ 27) {t w : Nat} (hwd : 32 ≤ w ∧ w < 99) (ht : t + 1 < T.length) (hC : CurR r (tk T (t + 1))) (hw : sec = true → inF T N (nI h) t w h = none) : SoR B n r T sec h (fun r Q => MO_statement_39 (nI (plaT T t)) (wId w) r Q) (if sec = true then inBo T N (nI h) t w h else inF T N (nI h) t w h) N (h + (inOo T N (nI h) t w h).length) cs (ptS sec h (inOo T N (nI h) t w h) P) := by
  obtain ⟨hLn, h20, h42, h8, hCs, hP⟩ := id hS
  have hL := hLn.2.1
  have hl2 := lsN_2 T N (nI h) (t + 1)
  obtain ⟨r1, b1, M1, H1, E1⟩ := opsR hLn ht hC h8
  rcases H1 with ⟨ok, e0, h81, h28, hO, xE, hxE, hCE⟩ | ⟨ok, e0, hfl⟩
  · have hS1 : StR B n r1 T N sec h h cs P := hS.mod M1 h81 (by decide) (by decide)
    have eF : inF T N (nI h) t w h = (match inX T N (nI h) t w with | none => some (6, plaT T t) | some x => goF T t h (szN x)) := if_pos ok
    have hxk : (tk T xE).1 = 0 := by
      unfold lsOk at ok
      rw [hxE] at ok
      exact of_decide_eq_true ok
    have hxl : xE < T.length := by
      -- an END at a place
      unfold lsX at hxE
      by_cases k0 : (tk T (t + 1)).1 = 0
      · rw [if_pos k0] at hxE
        cases hxE
        exact ht
      · rw [if_neg k0] at hxE
        by_cases o1 : oOk T N (nI h) (t + 1) = true
        · rw [if_pos o1] at hxE
          have hnx := oNx_lt hL (N := N) (here := nI h) ht
          by_cases kc : (tk T (oNx T N (nI h) (t + 1))).1 = 44
          · rw [if_pos kc] at hxE
            by_cases o2 : oOk T N (nI h) (oNx T N (nI h) (t + 1) + 1) = true
            · rw [if_pos o2] at hxE
              cases hxE
              exact oNx_lt hL (more hL hnx (by omega))
            · rw [if_neg o2] at hxE
              cases hxE
          · rw [if_neg kc] at hxE
            cases hxE
            exact hnx
        · rw [if_neg o1] at hxE
          cases hxE
    -- the code
    have hk : ∀ i, kdN T N (nI h) (t + 1) i < 36 := by
      intro i
      unfold kdN
      split
      · exact (oKd_36 _ _).1
      · omega
    have hopr : ∀ i, i < lsN T N (nI h) (t + 1) → 0 < kdN T N (nI h) (t + 1) i ∧ kdN T N (nI h) (t + 1) i < 36 ∧ gA r1 50 i = nI (rkT (kdN T N (nI h) (t + 1) i)) ∧ gA r1 51 i = nI (rwT (kdN T N (nI h) (t + 1) i)) ∧ gA r1 54 i = kbr (kdN T N (nI h) (t + 1) i) := by
      intro i hi
      obtain ⟨⟨o50, o51, o53, o54⟩, -⟩ := hO i hi
      have e : kdN T N (nI h) (t + 1) i = oKd T (lsT T N (nI h) (t + 1) i) := if_pos hi
      rw [e]
      exact ⟨oKd_0, (oKd_36 _ _).1, o50, o51, o54⟩
    have hen := encT (c1 := 0) (w := w) (n := lsN T N (nI h) (t + 1)) (k0 := kdN T N (nI h) (t + 1) 0) (k1 := kdN T N (nI h) (t + 1) 1) (a0 := gA r1 50 0) (b0 := gA r1 51 0) (c0 := gA r1 54 0) (a1 := gA r1 50 1) (b1 := gA r1 51 1) (m := gF r1 42) hwd hl2 (fun q => hopr 0 q) (fun q => by
      obtain ⟨q1, q2, q3, q4, -⟩ := hopr 1 q
      exact ⟨q1, q2, q3, q4⟩) (fun q => if_neg (by omega)) (fun q => if_neg (by omega))
    obtain ⟨z, hz⟩ : ∃ z, z = MO_encode_v (wId w) (gA r1 50 0) (gA r1 51 0) (gA r1 54 0) (gA r1 50 1) (gA r1 51 1) (gF r1 42) (nI (lsN T N (nI h) (t + 1))) := ⟨_, rfl⟩
    rw [← hz] at hen
    have enc : ∀ Q : Int32 → vmD → Prop, MO_encode (wId w) r1 Q = Q z.1 (stM r1 z.2) := by
      intro Q
      have := MO_encode_e (wId w) r1 (gF r1 42) Q
      rw [stM_self, h28, ← hz] at this
      exact this
    obtain ⟨r2, hr2⟩ : ∃ r2, r2 = stM r1 z.2 := ⟨_, rfl⟩
    have M2 : ModR [29, 30, 31, 32, 33, 34, 35, 36] [] r1 r2 := by
      rw [hr2]
      refine ⟨fun o ho => ?_, fun f hf => ?_, fun o _ => rfl, rfl, fun o _ => rfl, fun f _ => rfl⟩
      · funext f
        exact gF_stM r1 z.2 (fun q => ho q.1)
      · refine gF_stM r1 z.2 (fun q => hf ?_)
        simp only [List.mem_cons, List.not_mem_nil, or_false]
        omega
    have h82 : gF r2 42 8 = 0 := by
      rw [M2.2.1 8 (by decide)]
      exact h81
    have hS2 : StR B n r2 T N sec h h cs P := hS1.mod M2 h82 (by decide) (by decide)
    have M12 : ModR GRF GRA r r2 := (modROF M1).trans (M2.mono (by decide) (by decide))
    have start : ∀ Q : Int32 → vmD → Prop, (if z.1 = 0 then (MO_wrong 6 (nI (plaT T t)) r2 fun r_19 d_18 => (r_19 = 0 ∨ r_19 = 1) ∧ Q r_19 d_18) else (MO_lengthOf r2 fun r_21 d_20 => if (65536 : Int32) < ((gF d_20 42 20) + r_21) then (MO_wrong 8 (nI (plaT T t)) d_20 fun r_24 d_23 => (r_24 = 0 ∨ r_24 = 1) ∧ Q r_24 d_23) else (if (gF d_20 42 42) = 0 then (bnd (sF d_20 42 20 ((gF d_20 42 20) + r_21)) fun d_26 => Q 1 d_26) else (MO_layInstruction r_21 d_20 fun r_28 d_27 => (r_28 = 0 ∨ r_28 = 1) ∧ Q r_28 d_27)))) → MO_statement_39 (nI (plaT T t)) (wId w) r Q := by
      intro Q hQ
      unfold MO_statement_39
      refine E1 _ ?_
      rw [e0, if_neg (by decide), enc, ← hr2]
      exact hQ
    cases eX : inX T N (nI h) t w with
    | none =>
      rw [eX] at eF
      have e2 : fnT w (adjK w (kdN T N (nI h) (t + 1) 0)) (adjK w (kdN T N (nI h) (t + 1) 1)) = none := by
        unfold inX at eX
        cases g : fnT w (adjK w (kdN T N (nI h) (t + 1) 0)) (adjK w (kdN T N (nI h) (t + 1) 1)) with
        | none => rfl
        | some v => rw [g] at eX; cases eX
      rw [e2] at hen
      have s0 : sec = false := by
        cases sec with
        | false => rfl
        | true =>
          have := hw rfl
          rw [eF] at this
          cases this
      obtain ⟨r3, E3, f3, M3, -⟩ := wrgR h82 6 (plaT T t)
      refine ⟨r3, 0, fun Q hQ => start Q ?_, M12.trans (mod89 M3), Or.inr ⟨_, by rw [s0, if_neg Bool.false_ne_true]; exact eF, rfl, f3⟩⟩
      rw [if_pos hen]
      exact E3 _ ⟨Or.inl rfl, hQ⟩
    | some x =>
      rw [eX] at eF
      dsimp only at eF
      have e2 : ∃ v, fnT w (adjK w (kdN T N (nI h) (t + 1) 0)) (adjK w (kdN T N (nI h) (t + 1) 1)) = some v ∧ v.2.2 = x := by
        unfold inX at eX
        cases g : fnT w (adjK w (kdN T N (nI h) (t + 1) 0)) (adjK w (kdN T N (nI h) (t + 1) 1)) with
        | none => rw [g] at eX; cases eX
        | some v => rw [g] at eX; exact ⟨v, rfl, Option.some.inj eX⟩
      obtain ⟨u, e2, e3⟩ := e2
      rw [e2] at hen
      dsimp only at hen
      rw [e3] at hen
      obtain ⟨hen1, hagz⟩ := hen
      obtain ⟨hx, hsz, hs4, a0, a1, ht0, -, -, hGx, hGg⟩ := inX_ok (by omega) eX
      have hA : agP x (gF r2 42) := hagz.eq (fun f g1 g2 => by rw [hr2]; exact gF_stM' r1 z.2 g1 g2)
      have eOo : inOo T N (nI h) t w h = inO T N (nI h) t h x := by unfold inOo; rw [eX]
      have eBo : inBo T N (nI h) t w h = inB T N (nI h) t h x := by unfold inBo; rw [eX]
      rw [eOo, eBo, inO_len]
      have start : ∀ Q : Int32 → vmD → Prop, (if (65536 : Int32) < nI (h + szN x) then (MO_wrong 8 (nI (plaT T t)) r2 fun r_24 d_23 => (r_24 = 0 ∨ r_24 = 1) ∧ Q r_24 d_23) else (if kb sec = 0 then Q 1 (sF r2 42 20 (nI (h + szN x))) else (MO_layInstruction (nI (szN x)) r2 fun r_28 d_27 => (r_28 = 0 ∨ r_28 = 1) ∧ Q r_28 d_27))) → MO_statement_39 (nI (plaT T t)) (wId w) r Q := by
        intro Q hQ
        refine start Q ?_
        rw [hen1, if_neg (by decide), lenR hA, lnX_ok (by omega) eX, hS2.2.1, nI_add, hS2.2.2.1]
        by_cases y : (65536 : Int32) < nI (h + szN x)
        · rw [if_pos y] at hQ ⊢
          exact hQ
        · rw [if_neg y] at hQ ⊢
          by_cases y2 : kb sec = 0
          · rw [if_pos y2] at hQ ⊢
            exact bnd_iff.mpr hQ
          · rw [if_neg y2] at hQ ⊢
            exact hQ
      have c65 := c65K (h + szN x) (by omega)
      by_cases g : 65536 < h + szN x
      · have eg : goF T t h (szN x) = some (8, plaT T t) := if_pos g
        have s0 : sec = false := by
          cases sec with
          | false => rfl
          | true =>
            have := hw rfl
            rw [eF, eg] at this
            cases this
        obtain ⟨r3, E3, f3, M3, -⟩ := wrgR h82 8 (plaT T t)
        refine ⟨r3, 0, fun Q hQ => start Q ?_, M12.trans (mod89 M3), Or.inr ⟨_, by rw [s0, if_neg Bool.false_ne_true, eF]; exact eg, rfl, f3⟩⟩
        rw [if_pos (c65.mpr g)]
        exact E3 _ ⟨Or.inl rfl, hQ⟩
      · have eg : goF T t h (szN x) = none := if_neg g
        have f2 : gF r2 42 2 = nI (tk T xE).2.2.1 := by
          rw [M2.2.1 2 (by decide)]
          exact hCE.2.2.1
        cases sec with
        | false =>
          have M3 : ModR [20, 39, 40] [56] r2 (sF r2 42 20 (nI (h + szN x))) := (ModR.refl _ _ r2).sF (by decide) _
          refine ⟨sF r2 42 20 (nI (h + szN x)), 1, fun Q hQ => start Q ?_, M12.trans (modLay M3), Or.inl ⟨by rw [if_neg Bool.false_ne_true, eF, eg], rfl, hS2.lay M3 ⟨hS2.2.2.2.2.2.1, fun q => Bool.noConfusion q⟩ (by rw [gF_sF, u1f_eq]), xE, hxl, hxk, ?_⟩⟩
          · rw [if_neg (fun q => g (c65.mp q)), if_pos (show kb false = 0 from rfl)]
            exact hQ
          · rw [M3.2.1 2 (by decide)]
            exact f2
        | true =>
          rw [if_pos rfl]
          have hO2 : ∀ i, i < lsN T N (nI h) (t + 1) → OPR r2 i T (lsT T N (nI h) (t + 1) i) := fun i hi => (hO i hi).eq (fun o _ _ => by rw [M2.2.2.1 o (by intro q; cases q)])
          have h282 : gF r2 42 28 = nI (lsN T N (nI h) (t + 1)) := by
            rw [M2.2.1 28 (by decide)]
            exact h28
          obtain ⟨r3, b3, E3, M3, H3⟩ := opsW (by omega) eX hS2.1 h82 hS2.2.1 hA ht ok h282 hO2
          have M3' : ModR GRF GRA r2 r3 := M3.mono (by decide) (by decide)
          have start : ∀ Q : Int32 → vmD → Prop, (if b3 = 0 then Q 0 r3 else liT (gF r2 42 2) r3 (fun r_28 d_27 => (r_28 = 0 ∨ r_28 = 1) ∧ Q r_28 d_27)) → MO_statement_39 (nI (plaT T t)) (wId w) r Q := by
            intro Q hQ
            refine start Q ?_
            rw [if_neg (fun q => g (c65.mp q)), if_neg (show ¬ kb true = 0 by decide)]
            refine E3 _ ?_
            by_cases y : b3 = 0
            · rw [if_pos y] at hQ ⊢
              exact ⟨Or.inl rfl, hQ⟩
            · rw [if_neg y] at hQ ⊢
              exact hQ
          cases eB : inB T N (nI h) t h x with
          | some q =>
            obtain ⟨k0, k1⟩ := H3.bad eB
            refine ⟨r3, 0, fun Q hQ => start Q ?_, M12.trans M3', Or.inr ⟨q, rfl, rfl, k1⟩⟩
            rw [k0, if_pos rfl]
            exact hQ
          | none =>
            obtain ⟨k0, h83, w1, w2, w3, w4, w5⟩ := H3.good eB
            have hA3 : agP x (gF r3 42) := hA.eq (fun f g1 g2 => M3.2.1 f (by
              intro q
              simp only [List.mem_cons, List.not_mem_nil, or_false] at q
              omega))
            have hfi : ¬ pkI (shF x 0) = 0 → fiI (shF x 0) (vlI T N (nI h) (t + 1) 0) = true := by
              intro np
              have h0n : 0 < lsN T N (nI h) (t + 1) := by
                refine Decidable.byContradiction fun q => np ?_
                rw [shF_0 (by omega) eX (i := 0) (by omega) (by omega)]
                decide
              have eA : thF (opA T N (nI h) (t + 1) 0) (opR T N (nI h) (t + 1) h x 0) = none := (thF_eq eB).1
              have n38 : ¬ shF x 0 = 38 := fun e => np (by rw [e]; decide)
              have ec : cvI T N (nI h) (t + 1) h x 0 = vlI T N (nI h) (t + 1) 0 := if_neg n38
              rw [← ec]
              cases e : oFr T (lsT T N (nI h) (t + 1) 0) with
              | none => exact noFi (by omega) eX h0n e
              | some q => exact fi_of h0n eA ⟨q, e⟩
            have h7 : pkI (shF x 0) = 0 ∨ x % 256 / 8 % 8 = 0 := by
              obtain ⟨-, -, -, -, -, q6, q7⟩ := hA
              rcases q7 with q | q
              · left
                rw [← q6]
                exact q
              · exact Or.inr q.2
            have eL := refL_e (T := T) (N := N) (here := nI h) (t := t) (h := h) (x := x) hGx hGg hx h7 w1 hfi w2 w3 w4 w5
            have hP3 : PtR true r3 P := by
              have := hS2.2.2.2.2.2
              unfold PtR at this ⊢
              rw [M3.2.1 39 (by decide), M3.2.1 40 (by decide), M3.2.2.1 56 (by decide)]
              exact this
            have h203 : gF r3 42 20 = nI h := by
              rw [M3.2.1 20 (by decide)]
              exact hS2.2.1
            obtain ⟨r4, E4, P4, g4, M4, f4⟩ := layI (x2 := gF r2 42 2) hP3 h203 hA3 hx (by rw [eL, inO_len]; omega) (by omega)
            rw [eL] at P4 g4
            rw [inO_len] at g4
            have hS3 : StR B n r3 T N true h h cs P := hS2.mod M3 h83 (by decide) (by decide)
            obtain ⟨q1, q2, q3, q4, q5, q6⟩ := hS3
            refine ⟨r4, 1, fun Q hQ => start Q ?_, (M12.trans M3').trans (M4.mono (by decide) (by decide)), Or.inl ⟨rfl, rfl, ⟨q1.mod M4 (by decide) (by decide), g4, ?_, ?_, q5.mod M4 (by decide) (by decide) (by decide), P4⟩, xE, hxl, hxk, f4.trans f2⟩⟩
            · rw [k0, if_neg (by decide)]
              exact E4 _ ⟨Or.inr rfl, hQ⟩
            · rw [M4.2.1 42 (by decide)]
              exact q3
            · rw [M4.2.1 8 (by decide)]
              exact q4
  · have eF : inF T N (nI h) t w h = rfF T (lsB T N (nI h) (t + 1)) := if_neg ok
    have s0 : sec = false := by
      cases sec with
      | false => rfl
      | true =>
        have := hw rfl
        rw [eF] at this
        cases this
    refine ⟨r1, 0, fun Q hQ => ?_, modROF M1, Or.inr ⟨(rfc T (lsB T N (nI h) (t + 1)), plaT T (lsB T N (nI h) (t + 1))), by rw [s0, if_neg Bool.false_ne_true]; exact eF, rfl, hfl⟩⟩
    show MO_statement_39 (nI (plaT T t)) (wId w) r Q
    unfold MO_statement_39
    refine E1 _ ?_
    rw [e0, if_pos rfl]
    exact hQ
