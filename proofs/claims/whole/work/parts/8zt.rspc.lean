/-! The reference's IF; what it lays; DS -/
def ifP (x1 : Int32) (d : vmD) (Q : Int32 → vmD → Prop) : Prop := if (gF d 42 45) = 8 then (MO_wrong 7 x1 d fun r_25 d_24 => (r_25 = 0 ∨ r_25 = 1) ∧ Q r_25 d_24) else (MO_expression 1 d fun r_27 d_26 => if r_27 = 0 then (Q 0 d_26) else (if (gF d_26 42 22) = 0 then (MO_directive_167 0 d_26 Q) else (MO_directive_167 1 d_26 Q)))
theorem ifR {B : Nat → Nat} {n : Nat} {r : vmD} {T : List Tk} {N : Nt} {sec : Bool} {ho h : Nat} {cs : Cs} {P : Pt} (hS : StR B n r T N sec ho h cs P) {t : Nat} (ht : t + 1 < T.length) (hC : CurR r (tk T (t + 1))) : SoR B n r T sec ho (fun r Q => ifP (nI (plaT T t)) r Q) (cdF T N (nI ho) t 104 cs) N h (pas 104 (decide (¬ xvl T N (nI ho) (t + 1) = 0)) cs) P := by
  obtain ⟨hLn, h20, h42, h8, hCs, hP⟩ := id hS
  have hL := hLn.2.1
  obtain ⟨c1, c2, c3, c4⟩ := id hCs
  have ea : alw 104 cs = decide (cs.length < 8) := if_pos rfl
  by_cases z8 : cs.length < 8
  · have ha : alw 104 cs = true := ea.trans (decide_eq_true z8)
    have eF0 : cdF T N (nI ho) t 104 cs = thF (xF T N (nI ho) (t + 1)) (endF T (xat T N (nI ho) (t + 1))) := (if_pos ha).trans (if_pos rfl)
    rw [eF0]
    obtain ⟨r1, b1, E1, M1, H1⟩ := xprR true ht hLn hC h8
    rw [if_pos rfl] at H1
    have start : ∀ Q : Int32 → vmD → Prop, (if b1 = 0 then (Q 0 r1) else (if (gF r1 42 22) = 0 then (MO_directive_167 0 r1 Q) else (MO_directive_167 1 r1 Q))) → ifP (nI (plaT T t)) r Q := by
      intro Q hQ
      unfold ifP
      rw [c1, if_neg (show ¬ nI cs.length = 8 from fun q => by have := (nI_eq (b := 8) (by omega) (by omega)).mp q; omega)]
      exact E1 _ hQ
    cases eX : xF T N (nI ho) (t + 1) with
    | some q =>
      obtain ⟨e0, e1⟩ := H1.bad eX
      refine ⟨r1, 0, fun Q hQ => start Q ?_, modRF M1, Or.inr ⟨q, rfl, rfl, e1⟩⟩
      rw [e0, if_pos rfl]
      exact hQ
    | none =>
      obtain ⟨e0, hC1, h81, hok, hv⟩ := H1.good eX
      have hv := hv rfl
      have hx := exprLt hL (N := N) (here := nI ho) ht
      have hkx := tk_kd hL (xat T N (nI ho) (t + 1))
      have hS1 : StR B n r1 T N sec ho h cs P := hS.mod M1 h81 (by decide) (by decide)
      obtain ⟨g1, g2, g3, g4⟩ := id hS1.2.2.2.2.1
      rw [thF_none]
      have start2 : ∀ Q : Int32 → vmD → Prop, MO_directive_167 (kb (decide (¬ xvl T N (nI ho) (t + 1) = 0))) r1 Q → ifP (nI (plaT T t)) r Q := by
        intro Q hQ
        refine start Q ?_
        rw [e0, if_neg (by decide), hv]
        by_cases z : xvl T N (nI ho) (t + 1) = 0
        · rw [if_pos z]
          rw [decide_eq_false (fun q => q z)] at hQ
          exact hQ
        · rw [if_neg z]
          rw [decide_eq_true z] at hQ
          exact hQ
      by_cases z : (tk T (xat T N (nI ho) (t + 1))).1 = 0
      · have k1 : gF r1 42 3 = 1 := by
          rw [hC1.1]
          exact (rk1 hkx).1.mpr z
        obtain ⟨y, hy⟩ : ∃ y, y = decide (¬ xvl T N (nI ho) (t + 1) = 0) := ⟨_, rfl⟩
        rw [← hy] at start2
        rw [← hy]
        have ep : pas 104 y cs = (y, false) :: cs := if_pos rfl
        rw [ep]
        have M2 : ModR [45] [57, 58] r1 (sF (sA (sA r1 57 cs.length (kb y)) 58 cs.length (kb false)) 42 45 (nI (cs.length + 1))) := (((ModR.refl _ _ r1).sA (by decide) _ _).sA (by decide) _ _).sF (by decide) _
        refine ⟨sF (sA (sA r1 57 cs.length (kb y)) 58 cs.length (kb false)) 42 45 (nI (cs.length + 1)), 1, fun Q hQ => start2 Q ?_, (modRF M1).trans (M2.mono (by decide) (by decide)), Or.inl ⟨if_pos z, rfl, ?_, ?_⟩⟩
        · unfold MO_directive_167
          rw [if_pos k1, g1]
          refine ⟨nI_in (by omega) (by omega), bnd_iff.mpr ?_⟩
          rw [gF_sA, g1]
          refine ⟨nI_in (by omega) (by omega), bnd_iff.mpr (bnd_iff.mpr ?_)⟩
          rw [gF_sA, gF_sA, g1, nI_clamp (by omega), kb_and, nI_p1]
          exact hQ
        · obtain ⟨a, b, c, d, e', g⟩ := hS1
          refine ⟨a.mod M2 (by decide) (by decide), ?_, ?_, ?_, ⟨?_, ?_, ⟨?_, ?_⟩, ⟨?_, ?_⟩⟩, ?_⟩
          · rw [M2.2.1 20 (by decide)]
            exact b
          · rw [M2.2.1 42 (by decide)]
            exact c
          · rw [M2.2.1 8 (by decide)]
            exact d
          · rw [gF_sF, u1f_eq]
            rfl
          · rw [List.length_cons]
            omega
          · show gA _ 57 (cs.map (fun x => kb x.1)).length = kb y
            rw [List.length_map, gA_sF, gA_sA_ne _ _ _ (by decide), gA_sA, u1f_eq]
          · rw [gA_sF, gA_sA_ne _ _ _ (by decide), gA_sA]
            exact g3.upd _ (by rw [List.length_map]; exact Nat.le_refl _)
          · show gA _ 58 (cs.map (fun x => kb x.2)).length = kb false
            rw [List.length_map, gA_sF, gA_sA, u1f_eq]
          · rw [gA_sF, gA_sA, gA_sA_ne _ _ _ (by decide)]
            exact g4.upd _ (by rw [List.length_map]; exact Nat.le_refl _)
          · unfold PtR at g ⊢
            rw [M2.2.1 39 (by decide), M2.2.1 40 (by decide), M2.2.2.1 56 (by decide)]
            exact g
        · refine ⟨_, hx, z, ?_⟩
          rw [M2.2.1 2 (by decide)]
          exact hC1.2.2.1
      · have k1 : ¬ gF r1 42 3 = 1 := by
          rw [hC1.1]
          exact fun w => z ((rk1 hkx).1.mp w)
        obtain ⟨r2, E2, f2, M2⟩ := rfsR hC1 h81 hkx
        refine ⟨r2, 0, fun Q hQ => start2 Q ?_, (modRF M1).trans (mod89 M2), Or.inr ⟨_, if_neg z, rfl, f2⟩⟩
        unfold MO_directive_167
        rw [if_neg k1]
        exact E2 _ ⟨Or.inl rfl, hQ⟩
  · have ha : ¬ alw 104 cs = true := by
      rw [ea, decide_eq_false z8]
      exact Bool.false_ne_true
    have eF0 : cdF T N (nI ho) t 104 cs = some (7, plaT T t) := if_neg ha
    obtain ⟨r', E, f, M, -⟩ := wrgR h8 7 (plaT T t)
    refine ⟨r', 0, fun Q hQ => ?_, mod89 M, Or.inr ⟨_, eF0, rfl, f⟩⟩
    show ifP (nI (plaT T t)) r Q
    unfold ifP
    rw [c1, if_pos (show nI cs.length = 8 by rw [show cs.length = 8 by omega]; rfl)]
    exact E _ ⟨Or.inl rfl, hQ⟩
/-- an octet is laid -/
theorem layR {r : vmD} {P : Pt} {h : Nat} (hP : PtR true r P) (h20 : gF r 42 20 = nI h) (hh : h < 65536) (hp : P.2.1 < 2 ^ 30) (x : Int32) : ∃ r', (∀ Q : vmD → Prop, Q r' → MO_lay x r Q) ∧ PtR true r' (ptL h [x] P) ∧ gF r' 42 20 = nI (h + 1) ∧ ModR [20, 39, 40] [56] r r' ∧ gG r' = gG r := by
  obtain ⟨h1, h2⟩ := hP
  obtain ⟨h39, h40⟩ := h2 rfl
  have e65 : nI h &&& 65535 = nI h := wrd.and ⟨h, hh, rfl⟩
  obtain ⟨r1, hr1⟩ : ∃ r1, r1 = sA r 56 h (x &&& 255) := ⟨_, rfl⟩
  have f1 : gF r1 = gF r := by rw [hr1]; rfl
  have G1 : gG r1 = gG r := by rw [hr1]; rfl
  have M1 : ModR [20, 39, 40] [56] r r1 := by
    rw [hr1]
    exact (ModR.refl _ _ r).sA (by decide) _ _
  obtain ⟨r2, hr2⟩ : ∃ r2, r2 = (if P.2.1 = 0 then sF r1 42 40 (nI h) else r1) := ⟨_, rfl⟩
  have M2 : ModR [20, 39, 40] [56] r r2 := by
    rw [hr2]
    split
    · exact M1.sF (by decide) _
    · exact M1
  have G2 : gG r2 = gG r := by
    rw [hr2]
    split
    · exact G1
    · exact G1
  have A2 : gA r2 = gA r1 := by
    rw [hr2]
    split
    · rfl
    · rfl
  have f39 : gF r2 42 39 = nI P.2.1 := by
    rw [hr2]
    split
    · rw [gF_sF, u1f_ne _ _ (by decide), f1]
      exact h39
    · rw [f1]
      exact h39
  have f20 : gF r2 42 20 = nI h := by
    rw [hr2]
    split
    · rw [gF_sF, u1f_ne _ _ (by decide), f1]
      exact h20
    · rw [f1]
      exact h20
  have f40 : gF r2 42 40 = nI (if P.2.1 = 0 then h else P.2.2) := by
    rw [hr2]
    by_cases z : P.2.1 = 0
    · rw [if_pos z, if_pos z, gF_sF, u1f_eq]
    · rw [if_neg z, if_neg z, f1]
      exact h40
  refine ⟨sF (sF r2 42 39 (nI (P.2.1 + 1))) 42 20 (nI (h + 1)), fun Q hQ => ?_, ⟨fun a ha => ?_, fun _ => ⟨?_, ?_⟩⟩, ?_, (M2.sF (by decide) _).sF (by decide) _, by rw [← G2]; rfl⟩
  · unfold MO_lay
    rw [h20, e65]
    refine ⟨nI_in hh (by omega), bnd_iff.mpr ?_⟩
    rw [nI_clamp (by omega), ← hr1, f1, h39]
    have e : nI P.2.1 = 0 ↔ P.2.1 = 0 := nI_eq (b := 0) (by omega) (by omega)
    have e32 : MO_lay_32 r2 Q := by
      unfold MO_lay_32
      refine bnd_iff.mpr (bnd_iff.mpr ?_)
      rw [gF_sF, u1f_ne _ _ (by decide), f20, f39, nI_p1, nI_p1]
      exact hQ
    by_cases z : P.2.1 = 0
    · rw [if_pos (e.mpr z), h20]
      rw [hr2, if_pos z] at e32
      exact bnd_iff.mpr e32
    · rw [if_neg (fun q => z (e.mp q))]
      rw [hr2, if_neg z] at e32
      exact e32
  · rw [gA_sF, gA_sF, A2, hr1, gA_sA]
    show u1f (gA r 56) h (x &&& 255) a = u1f P.1 h (x &&& 255) a
    by_cases z : a = h
    · rw [z, u1f_eq, u1f_eq]
    · rw [u1f_ne _ _ z, u1f_ne _ _ z]
      exact h1 a ha
  · rw [gF_sF, u1f_ne _ _ (by decide), gF_sF, u1f_eq]
    rfl
  · show gF _ 42 40 = nI (if P.2.1 = 0 ∧ 0 < [x].length then h else P.2.2)
    rw [gF_sF, u1f_ne _ _ (by decide), gF_sF, u1f_ne _ _ (by decide), f40]
    by_cases z : P.2.1 = 0
    · rw [if_pos z, if_pos ⟨z, Nat.zero_lt_one⟩]
    · rw [if_neg z, if_neg (fun q => z q.1)]
  · rw [gF_sF, u1f_eq]
def ptS (sec : Bool) (h : Nat) (l : List Int32) (P : Pt) : Pt := if sec = true then ptL h l P else P
theorem ptS_app (sec : Bool) (l1 l2 : List Int32) (h : Nat) (P : Pt) : ptS sec h (l1 ++ l2) P = ptS sec (h + l1.length) l2 (ptS sec h l1 P) := by
  unfold ptS
  split
  · exact ptL_app _ _ _ _
  · rfl
theorem ptS_nil (sec : Bool) (h : Nat) (P : Pt) : ptS sec h [] P = P := by
  unfold ptS
  split
  · exact ptL_nil _ _
  · rfl
theorem StR.lay {B : Nat → Nat} {n : Nat} {r r' : vmD} {T : List Tk} {N : Nt} {sec : Bool} {ho h h' : Nat} {cs : Cs} {P P' : Pt} (hS : StR B n r T N sec ho h cs P) (M : ModR [20, 39, 40] [56] r r') (hP : PtR sec r' P') (h20 : gF r' 42 20 = nI h') : StR B n r' T N sec ho h' cs P' := by
  obtain ⟨a, b, c, d, e, g⟩ := hS
  refine ⟨a.mod M (by decide) (by decide), h20, ?_, ?_, e.mod M (by decide) (by decide) (by decide), hP⟩
  · rw [M.2.1 42 (by decide)]
    exact c
  · rw [M.2.1 8 (by decide)]
    exact d
theorem modLay {r r' : vmD} (h : ModR [20, 39, 40] [56] r r') : ModR GRF GRA r r' := h.mono (by decide) (by decide)
/-- many octets, the same -/
theorem layN {r0 : vmD} {x : Int32} {k : Nat} (hk : k < 2 ^ 31) : ∀ (m i h : Nat) (r : vmD) (P : Pt), i + m = k → PtR true r P → gF r 42 20 = nI h → h + m ≤ 65536 → P.2.1 + m < 2 ^ 30 → ModR [20, 39, 40] [56] r0 r → ∃ r', (∀ Q : Int32 → vmD → Prop, Q 1 r' → ∃ f, MO_space_160 Q f (nI k) x (nI i) r) ∧ PtR true r' (ptL h (List.replicate m x) P) ∧ gF r' 42 20 = nI (h + m) ∧ ModR [20, 39, 40] [56] r0 r' := by
  intro m
  induction m with
  | zero =>
    intro i h r P hi hP h20 hh hp M
    refine ⟨r, fun Q hQ => ⟨1, ?_⟩, by rw [show List.replicate 0 x = [] from rfl, ptL_nil]; exact hP, h20, M⟩
    unfold MO_space_160
    rw [if_neg (nI_nlt (by omega) (by omega))]
    exact hQ
  | succ m ih =>
    intro i h r P hi hP h20 hh hp M
    obtain ⟨r1, E1, P1, g1, M1, -⟩ := layR hP h20 (by omega) (by omega) x
    obtain ⟨r2, E2, P2, g2, M2⟩ := ih (i + 1) (h + 1) r1 _ (by omega) P1 g1 (by omega) (by show P.2.1 + 1 + m < 2 ^ 30; omega) (M.trans M1)
    refine ⟨r2, fun Q hQ => ?_, ?_, by rw [g2, show h + 1 + m = h + (m + 1) by omega], M2⟩
    · obtain ⟨f, hf⟩ := E2 Q hQ
      refine ⟨f + 1, ?_⟩
      unfold MO_space_160
      rw [if_pos (nI_lt (by omega) (by omega))]
      refine E1 _ (bnd_iff.mpr ?_)
      rw [nI_p1]
      exact hf
    · have e : ptL h (List.replicate (m + 1) x) P = ptL (h + 1) (List.replicate m x) (ptL h [x] P) := ptL_app [x] (List.replicate m x) h P
      rw [e]
      exact P2
