/-! Shapes: the loop over all codes -/
def ShI (i : Nat) (d0 d : vmD) : Prop := ModC [] [16, 17, 18] [] d0 d ∧ (∀ j, i ≤ j → j < 1792 → gA d 16 j = tabS j ∧ gA d 17 j = tabX j) ∧ ∀ w, w < 107 → gA d 18 w = fsF (1792 - i) i (nI w)
theorem nx_of {c : Nat} (hc : c < 1792) : (0 ≤ wdS c ∧ wdS c < 107 → tabX c = fsF (1791 - c) (c + 1) (wdS c)) ∧ (¬ (0 ≤ wdS c ∧ wdS c < 107) → tabX c = -1) := by
  have h := rg_all nxC_0 hc
  unfold nxC at h
  constructor
  · intro q
    rw [if_pos q] at h
    exact of_decide_eq_true h
  · intro q
    rw [if_neg q] at h
    exact of_decide_eq_true h
theorem shpLoop {L : Nat} {d0 : vmD} {Q : Option Value → vmW → Prop} (hQ : ∀ d', ShpR d0 d' → Zs 19 d' → vmWp 160 116 [(1, .int (-1)), (0, .ref 15)] [] (wShp L d') Q) : ∀ (i : Nat) (d : vmD), i ≤ 1792 → ShI i d0 d → Zs 19 d → vmWp 160 42 [(1, .int (nI i - 1)), (0, .ref 15)] [] (wShp L d) Q := by
  intro i
  induction i with
  | zero =>
    intro d _ hS hz
    refine st_go 1 (pc' := 43) (lo' := [(1, .int (nI 0 - 1)), (0, .ref 15)]) (st' := [.int (nI 0 - 1)]) rfl ?_
    refine st_if (t := 116) (b := true) rfl (by decide) rfl ?_
    refine hQ d ⟨hS.1, fun j hj => hS.2.1 j (Nat.zero_le _) hj, fun w hw => ?_⟩ hz
    rw [hS.2.2 w hw]
    exact (of_decide_eq_true (rg_all fsC_0 hw)).symm
  | succ i ih =>
    intro d hi hS hz
    have e1 : nI (i + 1) - 1 = nI i := nI_pred i
    have em : nI i + (-1) = nI i - 1 := by rw [Int32.sub_eq_add_neg]
    rw [e1]
    obtain ⟨s1, s2, s3⟩ := shape_of (c := i) (by omega)
    obtain ⟨n1, n2⟩ := nx_of (c := i) (by omega)
    refine st_go 1 (pc' := 43) (lo' := [(1, .int (nI i)), (0, .ref 15)]) (st' := [.int (nI i)]) rfl ?_
    refine st_if (t := 46) (b := false) rfl (decide_eq_false (nI_nlt (b := 0) (by omega) (by omega))) rfl ?_
    refine st_go 6 (pc' := 55) (lo' := [(1, .int (nI i)), (0, .ref 15)]) (st' := [.int (nI i &&& 255), .int (nI i >>> ((8 : Int32) &&& 31))]) rfl ?_
    rw [s2, s3]
    refine vmWp.call (k' := 166) (args := [.int (nI (i / 256)), .int (nI (i % 256))]) (rest := []) rfl rfl ⟨300, _, _, s1 _, ?_⟩
    refine st_go 5 (pc' := 64) (lo' := [(3, .int (wdS i)), (2, .int (tabS i)), (1, .int (nI i)), (0, .ref 15)]) (st' := []) rfl ?_
    refine st_go 4 (pc' := 70) (lo' := [(3, .int (wdS i)), (2, .int (tabS i)), (1, .int (nI i)), (0, .ref 15)]) (st' := [.int (tabS i), .int (nI i), .ref 16]) rfl ?_
    refine ct_ast rfl rfl (show i < 1792 by omega) (by omega) ?_
    refine st_go 4 (pc' := 77) (lo' := [(3, .int (wdS i)), (2, .int (tabS i)), (1, .int (nI i)), (0, .ref 15)]) (st' := [.int (-1), .int (nI i), .ref 17]) rfl ?_
    refine ct_ast rfl rfl (show i < 1792 by omega) (by omega) ?_
    obtain ⟨d1, hd1⟩ : ∃ x, x = sA (sA d 16 i (tabS i)) 17 i (-1) := ⟨_, rfl⟩
    rw [← hd1]
    have z1 : Zs 19 d1 := by
      rw [hd1]
      exact (hz.sA (by decide)).sA (by decide)
    have M1 : ModC [] [16, 17, 18] [] d0 d1 := by
      rw [hd1]
      exact (hS.1.sA (by decide) _ _).sA (by decide) _ _
    have nope : ¬ (0 ≤ wdS i ∧ wdS i < 107) → vmWp 160 110 [(3, .int (wdS i)), (2, .int (tabS i)), (1, .int (nI i)), (0, .ref 15)] [] (wShp L d1) Q := by
      intro hw
      refine st_go 2 (pc' := 42) (lo' := [(1, .int (nI i + (-1))), (3, .int (wdS i)), (2, .int (tabS i)), (0, .ref 15)]) (st' := []) rfl ?_
      rw [em]
      refine vmWp.sub (lo' := [(1, .int (nI i - 1)), (0, .ref 15)]) ⟨rfl, rfl, trivial⟩ ?_
      refine ih d1 (by omega) ⟨M1, fun j hj hj2 => ?_, fun w h7 => ?_⟩ z1
      · rw [hd1]
        simp only [gA_sA, gA_sA_ne, gA_sF, gA_sG, gA_sL, gF_sA, gF_sF, gF_sF_ne, gF_sG, gF_sL, gG_sA, gG_sF, gG_sL, gG_sGe, gG_sG_ne, gL_sA, gL_sF, gL_sG, gL_sLe, gL_sL_ne, u1f_eq, u1f_ne, bnd_iff, not_false_eq_true, Nat.reduceEqDiff]
        by_cases z : j = i
        · subst z
          rw [u1f_eq, u1f_eq, n2 hw]
          exact ⟨rfl, rfl⟩
        · rw [u1f_ne _ _ z, u1f_ne _ _ z]
          exact hS.2.1 j (by omega) hj2
      · rw [hd1]
        simp only [gA_sA, gA_sA_ne, gA_sF, gA_sG, gA_sL, gF_sA, gF_sF, gF_sF_ne, gF_sG, gF_sL, gG_sA, gG_sF, gG_sL, gG_sGe, gG_sG_ne, gL_sA, gL_sF, gL_sG, gL_sLe, gL_sL_ne, u1f_eq, u1f_ne, bnd_iff, not_false_eq_true, Nat.reduceEqDiff]
        rw [hS.2.2 w h7, show 1792 - i = (1792 - (i + 1)) + 1 by omega, fsF_s, if_neg]
        intro q
        refine hw ?_
        rw [q]
        exact ⟨Int32.not_lt.mp (nI_nlt (b := 0) (by omega) (by omega)), nI_lt (b := 107) h7 (by omega)⟩
    refine st_go 1 (pc' := 79) (lo' := [(3, .int (wdS i)), (2, .int (tabS i)), (1, .int (nI i)), (0, .ref 15)]) (st' := [.int (wdS i)]) rfl ?_
    by_cases w0 : wdS i < 0
    · refine st_if (t := 110) (b := true) rfl (decide_eq_true w0) rfl ?_
      exact nope (fun q => Int32.not_lt.mpr q.1 w0)
    · refine st_if (t := 82) (b := false) rfl (decide_eq_false w0) rfl ?_
      refine st_go 3 (pc' := 87) (lo' := [(3, .int (wdS i)), (2, .int (tabS i)), (1, .int (nI i)), (0, .ref 15)]) (st' := [.ref 18, .int (wdS i)]) rfl ?_
      refine ct_len rfl rfl ?_
      by_cases w1 : wdS i < 107
      · refine st_icmp (t := 91) (b := false) rfl (decide_eq_false (fun q => Int32.not_lt.mpr q w1)) rfl ?_
        obtain ⟨q, hq7, hq⟩ : ∃ q, q < 107 ∧ wdS i = nI q := by
          obtain ⟨q, hq, e⟩ := nI_of w0
          have w2 := w1
          rw [e] at w2
          exact ⟨q, Nat.lt_of_not_le (fun hle => absurd w2 (nI_nlt (b := 107) (by omega) (by omega))), e⟩
        refine st_go 6 (pc' := 101) (lo' := [(3, .int (wdS i)), (2, .int (tabS i)), (1, .int (nI i)), (0, .ref 15)]) (st' := [.int (wdS i), .ref 18, .int (nI i), .ref 17]) rfl ?_
        have n1 := n1 ⟨Int32.not_lt.mp w0, w1⟩
        rw [hq] at n1 ⊢
        refine ct_ald rfl rfl (show q < 107 from hq7) (by omega) ?_
        refine ct_ast rfl rfl (show i < 1792 by omega) (by omega) ?_
        refine st_go 4 (pc' := 109) (lo' := [(3, .int (nI q)), (2, .int (tabS i)), (1, .int (nI i)), (0, .ref 15)]) (st' := [.int (nI i), .int (nI q), .ref 18]) rfl ?_
        refine ct_ast rfl rfl (show q < 107 from hq7) (by omega) ?_
        have e18 : gA d1 18 q = gA d 18 q := by
          rw [hd1]
          simp only [gA_sA, gA_sA_ne, gA_sF, gA_sG, gA_sL, gF_sA, gF_sF, gF_sF_ne, gF_sG, gF_sL, gG_sA, gG_sF, gG_sL, gG_sGe, gG_sG_ne, gL_sA, gL_sF, gL_sG, gL_sLe, gL_sL_ne, u1f_eq, u1f_ne, bnd_iff, not_false_eq_true, Nat.reduceEqDiff]
        rw [e18, hS.2.2 q hq7]
        refine st_go 2 (pc' := 42) (lo' := [(1, .int (nI i + (-1))), (3, .int (nI q)), (2, .int (tabS i)), (0, .ref 15)]) (st' := []) rfl ?_
        rw [em]
        refine vmWp.sub (lo' := [(1, .int (nI i - 1)), (0, .ref 15)]) ⟨rfl, rfl, trivial⟩ ?_
        refine ih _ (by omega) ⟨(M1.sA (by decide) _ _).sA (by decide) _ _, fun j hj hj2 => ?_, fun w h7 => ?_⟩ ((z1.sA (by decide)).sA (by decide))
        · rw [hd1]
          simp only [gA_sA, gA_sA_ne, gA_sF, gA_sG, gA_sL, gF_sA, gF_sF, gF_sF_ne, gF_sG, gF_sL, gG_sA, gG_sF, gG_sL, gG_sGe, gG_sG_ne, gL_sA, gL_sF, gL_sG, gL_sLe, gL_sL_ne, u1f_eq, u1f_ne, bnd_iff, not_false_eq_true, Nat.reduceEqDiff]
          by_cases z : j = i
          · subst z
            rw [u1f_eq, u1f_eq, n1, show 1791 - j = 1792 - (j + 1) by omega]
            exact ⟨rfl, rfl⟩
          · rw [u1f_ne _ _ z, u1f_ne _ _ z, u1f_ne _ _ z]
            exact hS.2.1 j (by omega) hj2
        · rw [hd1]
          simp only [gA_sA, gA_sA_ne, gA_sF, gA_sG, gA_sL, gF_sA, gF_sF, gF_sF_ne, gF_sG, gF_sL, gG_sA, gG_sF, gG_sL, gG_sGe, gG_sG_ne, gL_sA, gL_sF, gL_sG, gL_sLe, gL_sL_ne, u1f_eq, u1f_ne, bnd_iff, not_false_eq_true, Nat.reduceEqDiff]
          rw [show 1792 - i = (1792 - (i + 1)) + 1 by omega, fsF_s, hq]
          by_cases z : w = q
          · subst z
            rw [u1f_eq, if_pos rfl]
          · rw [u1f_ne _ _ z, hS.2.2 w h7, if_neg]
            exact fun y => z ((nI_eq (by omega) (by omega)).mp y).symm
      · refine st_icmp (t := 110) (b := true) rfl (decide_eq_true (Int32.not_lt.mp w1)) rfl ?_
        exact nope (fun q => w1 q.2)
theorem shpW {L : Nat} : ShpOk L := by
  intro d Q h18 hz hQ
  exact shpLoop hQ 1792 d (Nat.le_refl _) ⟨ModC.refl _ _ _ _, fun j h1 h2 => by omega, fun w hw => h18 w hw⟩ hz
