/-! forge, the reference's side -/
theorem cp17 (r : vmD) : ∀ (k i : Nat) (d : vmD), i + k = 65536 → ModR [] [56] r d → (∀ a, a < i → gA d 56 a = gA r 55 a) → ∃ d', (∀ Q : Int32 → vmD → Prop, (MO_pass d' fun r_11 d_10 => if r_11 = 0 then (MO_forge_70 r_11 d_10 Q) else (bnd (sF d_10 42 42 1) fun d_44 => bnd (sF d_44 42 39 0) fun d_45 => bnd (sF d_45 42 40 0) fun d_46 => MO_pass d_46 fun r_48 d_47 => MO_forge_70 r_48 d_47 Q)) → ∃ m, MO_forge_17 Q m (nI i) d) ∧ ModR [] [56] r d' ∧ (∀ a, a < 65536 → gA d' 56 a = gA r 55 a) := by
  intro k
  induction k with
  | zero =>
    intro i d hi M hs
    refine ⟨d, fun Q hQ => ⟨1, ?_⟩, M, fun a ha => hs a (by omega)⟩
    unfold MO_forge_17
    rw [if_neg (show ¬ nI i < (65536 : Int32) from nI_nlt (b := 65536) (by omega) (by omega))]
    exact hQ
  | succ k ih =>
    intro i d hi M hs
    obtain ⟨d', E, q⟩ := ih (i + 1) (sA d 56 i (gA d 55 i)) (by omega) (M.sA (by decide) _ _) (fun a ha => by
      simp only [gA_sA, gA_sA_ne, gA_sF, gA_sG, gA_sL, gF_sA, gF_sF, gF_sF_ne, gF_sG, gF_sL, gG_sA, gG_sF, gG_sL, gG_sGe, gG_sG_ne, gL_sA, gL_sF, gL_sG, gL_sLe, gL_sL_ne, u1f_eq, u1f_ne, bnd_iff, not_false_eq_true, Nat.reduceEqDiff]
      by_cases z : a = i
      · subst z
        rw [u1f_eq, M.2.2.1 55 (by decide)]
      · rw [u1f_ne _ _ z]
        exact hs a (by omega))
    refine ⟨d', fun Q hQ => ?_, q⟩
    obtain ⟨m, hm⟩ := E Q hQ
    refine ⟨m + 1, ?_⟩
    unfold MO_forge_17
    rw [if_pos (show nI i < (65536 : Int32) from nI_lt (b := 65536) (by omega) (by omega))]
    refine ⟨nI_in (by omega) (by omega), bnd_iff.mpr ⟨nI_in (by omega) (by omega), bnd_iff.mpr (bnd_iff.mpr ?_)⟩⟩
    rw [nI_clamp (by omega), nI_p1]
    exact hm
theorem cp134 (r : vmD) : ∀ (k i : Nat) (d : vmD), i + k = 65536 → ModR [] [55] r d → (∀ a, a < i → gA d 55 a = gA r 56 a) → ∃ d', (∀ Q : Int32 → vmD → Prop, (∃ m168, MO_forge_168 Q m168 0 (sF d' 42 51 (gF d' 42 13))) → ∃ m, MO_forge_134 Q m (nI i) d) ∧ ModR [] [55] r d' ∧ (∀ a, a < 65536 → gA d' 55 a = gA r 56 a) := by
  intro k
  induction k with
  | zero =>
    intro i d hi M hs
    refine ⟨d, fun Q hQ => ⟨1, ?_⟩, M, fun a ha => hs a (by omega)⟩
    unfold MO_forge_134
    rw [if_neg (show ¬ nI i < (65536 : Int32) from nI_nlt (b := 65536) (by omega) (by omega))]
    exact bnd_iff.mpr hQ
  | succ k ih =>
    intro i d hi M hs
    obtain ⟨d', E, q⟩ := ih (i + 1) (sA d 55 i (gA d 56 i)) (by omega) (M.sA (by decide) _ _) (fun a ha => by
      simp only [gA_sA, gA_sA_ne, gA_sF, gA_sG, gA_sL, gF_sA, gF_sF, gF_sF_ne, gF_sG, gF_sL, gG_sA, gG_sF, gG_sL, gG_sGe, gG_sG_ne, gL_sA, gL_sF, gL_sG, gL_sLe, gL_sL_ne, u1f_eq, u1f_ne, bnd_iff, not_false_eq_true, Nat.reduceEqDiff]
      by_cases z : a = i
      · subst z
        rw [u1f_eq, M.2.2.1 56 (by decide)]
      · rw [u1f_ne _ _ z]
        exact hs a (by omega))
    refine ⟨d', fun Q hQ => ?_, q⟩
    obtain ⟨m, hm⟩ := E Q hQ
    refine ⟨m + 1, ?_⟩
    unfold MO_forge_134
    rw [if_pos (show nI i < (65536 : Int32) from nI_lt (b := 65536) (by omega) (by omega))]
    refine ⟨nI_in (by omega) (by omega), bnd_iff.mpr ⟨nI_in (by omega) (by omega), bnd_iff.mpr (bnd_iff.mpr ?_)⟩⟩
    rw [nI_clamp (by omega), nI_p1]
    exact hm
theorem cp202 (r : vmD) (x : Nat) (hx : x < 200) : ∀ (k i : Nat) (d : vmD), i + k = 12 → ModR [] [59] r d → (∀ a, ¬ (12 * x ≤ a ∧ a < 12 * x + 12) → gA d 59 a = gA r 59 a) → (∀ j, j < i → gA d 59 (12 * x + j) = gA r 44 (12 * x + j)) → ∃ d', (∀ (b168 : Int32 → vmD → Prop) (Q : Int32 → vmD → Prop), b168 (nI (x + 1)) d' → ∃ m, MO_forge_202 b168 Q m (nI x) (nI i) d) ∧ ModR [] [59] r d' ∧ (∀ a, ¬ (12 * x ≤ a ∧ a < 12 * x + 12) → gA d' 59 a = gA r 59 a) ∧ (∀ j, j < 12 → gA d' 59 (12 * x + j) = gA r 44 (12 * x + j)) := by
  intro k
  induction k with
  | zero =>
    intro i d hi M hu hs
    refine ⟨d, fun b Q hQ => ⟨1, ?_⟩, M, hu, fun a ha => hs a (by omega)⟩
    unfold MO_forge_202
    rw [if_neg (show ¬ nI i < (12 : Int32) from nI_nlt (b := 12) (by omega) (by omega))]
    refine bnd_iff.mpr ?_
    rw [nI_p1]
    exact hQ
  | succ k ih =>
    intro i d hi M hu hs
    have e12 : (12 : Int32) * nI x + nI i = nI (12 * x + i) := by
      rw [show (12 : Int32) = nI 12 from rfl, pk_mul, nI_add]
    obtain ⟨d', E, q⟩ := ih (i + 1) (sA d 59 (12 * x + i) (gA d 44 (12 * x + i))) (by omega) (M.sA (by decide) _ _) (fun a ha => by
      simp only [gA_sA, gA_sA_ne, gA_sF, gA_sG, gA_sL, gF_sA, gF_sF, gF_sF_ne, gF_sG, gF_sL, gG_sA, gG_sF, gG_sL, gG_sGe, gG_sG_ne, gL_sA, gL_sF, gL_sG, gL_sLe, gL_sL_ne, u1f_eq, u1f_ne, bnd_iff, not_false_eq_true, Nat.reduceEqDiff]
      rw [u1f_ne _ _ (show ¬ a = 12 * x + i by omega)]
      exact hu a ha) (fun a ha => by
      simp only [gA_sA, gA_sA_ne, gA_sF, gA_sG, gA_sL, gF_sA, gF_sF, gF_sF_ne, gF_sG, gF_sL, gG_sA, gG_sF, gG_sL, gG_sGe, gG_sG_ne, gL_sA, gL_sF, gL_sG, gL_sLe, gL_sL_ne, u1f_eq, u1f_ne, bnd_iff, not_false_eq_true, Nat.reduceEqDiff]
      by_cases z : a = i
      · subst z
        rw [u1f_eq, M.2.2.1 44 (by decide)]
      · rw [u1f_ne _ _ (show ¬ 12 * x + a = 12 * x + i by omega)]
        exact hs a (by omega))
    refine ⟨d', fun b Q hQ => ?_, q⟩
    obtain ⟨m, hm⟩ := E b Q hQ
    refine ⟨m + 1, ?_⟩
    unfold MO_forge_202
    rw [if_pos (show nI i < (12 : Int32) from nI_lt (b := 12) (by omega) (by omega)), e12]
    refine ⟨nI_in (by omega) (by omega), bnd_iff.mpr ⟨nI_in (by omega) (by omega), bnd_iff.mpr (bnd_iff.mpr ?_)⟩⟩
    rw [nI_clamp (by omega), nI_p1]
    exact hm
def Kept (r d : vmD) (j : Nat) : Prop := gA d 60 j = gA r 45 j ∧ gA d 61 j = gA r 46 j ∧ ∀ i, i < 12 → gA d 59 (12 * j + i) = gA r 44 (12 * j + i)
theorem cp168 (r : vmD) (N : Nat) (hN : N ≤ 200) (h13 : gF r 42 13 = nI N) : ∀ (k i : Nat) (d : vmD), i + k = N → ModR [] [59, 60, 61] r d → (∀ j, j < i → Kept r d j) → ∃ d', (∀ Q : Int32 → vmD → Prop, Q (gF r 42 39) d' → ∃ m, MO_forge_168 Q m (nI i) d) ∧ ModR [] [59, 60, 61] r d' ∧ (∀ j, j < N → Kept r d' j) := by
  intro k
  induction k with
  | zero =>
    intro i d hi M hs
    refine ⟨d, fun Q hQ => ⟨1, ?_⟩, M, fun j hj => hs j (by omega)⟩
    unfold MO_forge_168
    rw [M.2.1 13 (by decide), h13, if_neg (nI_nlt (by omega) (by omega)), M.2.1 39 (by decide)]
    exact hQ
  | succ k ih =>
    intro i d hi M hs
    obtain ⟨d1, hd1⟩ : ∃ d1, d1 = sA (sA d 60 i (gA d 45 i)) 61 i (gA d 46 i) := ⟨_, rfl⟩
    have M1 : ModR [] [60, 61] d d1 := by
      rw [hd1]
      exact ((ModR.refl _ _ d).sA (by decide) _ _).sA (by decide) _ _
    obtain ⟨d2, E2, M2, u2, v2⟩ := cp202 d1 i (by omega) 12 0 d1 rfl (ModR.refl _ _ _) (fun _ _ => rfl) (fun j hj => absurd hj (Nat.not_lt_zero _))
    have M12 : ModR [] [59, 60, 61] r d2 := (M.trans (M1.mono (by decide) (by decide))).trans (M2.mono (by decide) (by decide))
    obtain ⟨d', E, q⟩ := ih (i + 1) d2 (by omega) M12 (fun j hj => by
      unfold Kept
      rw [M2.2.2.1 60 (by decide), M2.2.2.1 61 (by decide)]
      by_cases z : j = i
      · subst z
        refine ⟨?_, ?_, fun t ht => ?_⟩
        · rw [hd1]
          simp only [gA_sA, gA_sA_ne, gA_sF, gA_sG, gA_sL, gF_sA, gF_sF, gF_sF_ne, gF_sG, gF_sL, gG_sA, gG_sF, gG_sL, gG_sGe, gG_sG_ne, gL_sA, gL_sF, gL_sG, gL_sLe, gL_sL_ne, u1f_eq, u1f_ne, bnd_iff, not_false_eq_true, Nat.reduceEqDiff]
          rw [M.2.2.1 45 (by decide)]
        · rw [hd1]
          simp only [gA_sA, gA_sA_ne, gA_sF, gA_sG, gA_sL, gF_sA, gF_sF, gF_sF_ne, gF_sG, gF_sL, gG_sA, gG_sF, gG_sL, gG_sGe, gG_sG_ne, gL_sA, gL_sF, gL_sG, gL_sLe, gL_sL_ne, u1f_eq, u1f_ne, bnd_iff, not_false_eq_true, Nat.reduceEqDiff]
          rw [M.2.2.1 46 (by decide)]
        · rw [v2 t ht, M1.2.2.1 44 (by decide), M.2.2.1 44 (by decide)]
      · obtain ⟨k1, k2, k3⟩ := hs j (by omega)
        refine ⟨?_, ?_, fun t ht => ?_⟩
        · rw [hd1]
          simp only [gA_sA, gA_sA_ne, gA_sF, gA_sG, gA_sL, gF_sA, gF_sF, gF_sF_ne, gF_sG, gF_sL, gG_sA, gG_sF, gG_sL, gG_sGe, gG_sG_ne, gL_sA, gL_sF, gL_sG, gL_sLe, gL_sL_ne, u1f_eq, u1f_ne, bnd_iff, not_false_eq_true, Nat.reduceEqDiff]
          rw [u1f_ne _ _ z]
          exact k1
        · rw [hd1]
          simp only [gA_sA, gA_sA_ne, gA_sF, gA_sG, gA_sL, gF_sA, gF_sF, gF_sF_ne, gF_sG, gF_sL, gG_sA, gG_sF, gG_sL, gG_sGe, gG_sG_ne, gL_sA, gL_sF, gL_sG, gL_sLe, gL_sL_ne, u1f_eq, u1f_ne, bnd_iff, not_false_eq_true, Nat.reduceEqDiff]
          rw [u1f_ne _ _ z]
          exact k2
        · rw [u2 _ (by omega), M1.2.2.1 59 (by decide)]
          exact k3 t ht)
    refine ⟨d', fun Q hQ => ?_, q⟩
    obtain ⟨m, hm⟩ := E Q hQ
    obtain ⟨m2, hm2⟩ := E2 (MO_forge_168 Q m) Q hm
    refine ⟨m + 1, ?_⟩
    unfold MO_forge_168
    rw [M.2.1 13 (by decide), h13, if_pos (nI_lt (by omega) (by omega))]
    refine ⟨nI_in (by omega) (by omega), bnd_iff.mpr ⟨nI_in (by omega) (by omega), bnd_iff.mpr ⟨nI_in (by omega) (by omega), bnd_iff.mpr ⟨nI_in (by omega) (by omega), bnd_iff.mpr ⟨m2, ?_⟩⟩⟩⟩⟩
    rw [nI_clamp (by omega)]
    have e46 : gA (sA d 60 i (gA d 45 i)) 46 i = gA d 46 i := by
      simp only [gA_sA, gA_sA_ne, gA_sF, gA_sG, gA_sL, gF_sA, gF_sF, gF_sF_ne, gF_sG, gF_sL, gG_sA, gG_sF, gG_sL, gG_sGe, gG_sG_ne, gL_sA, gL_sF, gL_sG, gL_sLe, gL_sL_ne, u1f_eq, u1f_ne, bnd_iff, not_false_eq_true, Nat.reduceEqDiff]
    rw [e46, ← hd1]
    exact hm2
