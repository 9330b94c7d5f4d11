/-! Families: exchanges, loads through memory, ports, ADD of pairs -/
theorem Rel.xc0 {c r : vmD} (h : Rel c r) : Rel (sA (sA c 39 0 (gA c 39 4)) 39 4 (gA c 39 0)) (sA (sA (sA (sA r 65 7 (gA r 66 7)) 66 7 (gA r 65 7)) 65 6 (gA r 66 6)) 66 6 (gA r 65 6)) := by
  obtain ⟨q1, q2, q3, q4, q5, q6, ⟨g, g0, g1, g2, g3, g4, g5, g6, g7, g8, g9, g10, g11, g12, g13, g14, g15, g16⟩, q8, q9⟩ := h
  unfold Rel RTold RReg RReq
  simp only [gA_sA, gA_sA_ne, gA_sF, gA_sG, gA_sL, gF_sA, gF_sF, gF_sF_ne, gF_sG, gF_sL, gG_sA, gG_sF, gG_sL, gG_sGe, gG_sG_ne, gL_sA, gL_sF, gL_sG, gL_sLe, gL_sL_ne, u1f_eq, u1f_ne, bnd_iff, not_false_eq_true, Nat.reduceEqDiff]
  exact ⟨q1, q2, q3, q4, q5, q6, ⟨(((g.put1 _ (g 7 (by omega)).2).put2 _ (g 7 (by omega)).1).put1 _ (g 6 (by omega)).2).put2 _ (g 6 (by omega)).1, g4, g1, g2, g3, g0, g5, g6, g7, g8, g9, g10, g11, g12, g13, g14, g15, g16⟩, q8, q9⟩
theorem Rel.xc1 {c r : vmD} (h : Rel c r) : Rel (sA (sA c 39 1 (gA c 39 5)) 39 5 (gA c 39 1)) (sA (sA (sA (sA r 65 0 (gA r 66 0)) 66 0 (gA r 65 0)) 65 1 (gA r 66 1)) 66 1 (gA r 65 1)) := by
  obtain ⟨q1, q2, q3, q4, q5, q6, ⟨g, g0, g1, g2, g3, g4, g5, g6, g7, g8, g9, g10, g11, g12, g13, g14, g15, g16⟩, q8, q9⟩ := h
  unfold Rel RTold RReg RReq
  simp only [gA_sA, gA_sA_ne, gA_sF, gA_sG, gA_sL, gF_sA, gF_sF, gF_sF_ne, gF_sG, gF_sL, gG_sA, gG_sF, gG_sL, gG_sGe, gG_sG_ne, gL_sA, gL_sF, gL_sG, gL_sLe, gL_sL_ne, u1f_eq, u1f_ne, bnd_iff, not_false_eq_true, Nat.reduceEqDiff]
  exact ⟨q1, q2, q3, q4, q5, q6, ⟨(((g.put1 _ (g 0 (by omega)).2).put2 _ (g 0 (by omega)).1).put1 _ (g 1 (by omega)).2).put2 _ (g 1 (by omega)).1, g0, g5, g2, g3, g4, g1, g6, g7, g8, g9, g10, g11, g12, g13, g14, g15, g16⟩, q8, q9⟩
theorem Rel.xc2 {c r : vmD} (h : Rel c r) : Rel (sA (sA c 39 2 (gA c 39 6)) 39 6 (gA c 39 2)) (sA (sA (sA (sA r 65 2 (gA r 66 2)) 66 2 (gA r 65 2)) 65 3 (gA r 66 3)) 66 3 (gA r 65 3)) := by
  obtain ⟨q1, q2, q3, q4, q5, q6, ⟨g, g0, g1, g2, g3, g4, g5, g6, g7, g8, g9, g10, g11, g12, g13, g14, g15, g16⟩, q8, q9⟩ := h
  unfold Rel RTold RReg RReq
  simp only [gA_sA, gA_sA_ne, gA_sF, gA_sG, gA_sL, gF_sA, gF_sF, gF_sF_ne, gF_sG, gF_sL, gG_sA, gG_sF, gG_sL, gG_sGe, gG_sG_ne, gL_sA, gL_sF, gL_sG, gL_sLe, gL_sL_ne, u1f_eq, u1f_ne, bnd_iff, not_false_eq_true, Nat.reduceEqDiff]
  exact ⟨q1, q2, q3, q4, q5, q6, ⟨(((g.put1 _ (g 2 (by omega)).2).put2 _ (g 2 (by omega)).1).put1 _ (g 3 (by omega)).2).put2 _ (g 3 (by omega)).1, g0, g1, g6, g3, g4, g5, g2, g7, g8, g9, g10, g11, g12, g13, g14, g15, g16⟩, q8, q9⟩
theorem Rel.xc3 {c r : vmD} (h : Rel c r) : Rel (sA (sA c 39 3 (gA c 39 7)) 39 7 (gA c 39 3)) (sA (sA (sA (sA r 65 4 (gA r 66 4)) 66 4 (gA r 65 4)) 65 5 (gA r 66 5)) 66 5 (gA r 65 5)) := by
  obtain ⟨q1, q2, q3, q4, q5, q6, ⟨g, g0, g1, g2, g3, g4, g5, g6, g7, g8, g9, g10, g11, g12, g13, g14, g15, g16⟩, q8, q9⟩ := h
  unfold Rel RTold RReg RReq
  simp only [gA_sA, gA_sA_ne, gA_sF, gA_sG, gA_sL, gF_sA, gF_sF, gF_sF_ne, gF_sG, gF_sL, gG_sA, gG_sF, gG_sL, gG_sGe, gG_sG_ne, gL_sA, gL_sF, gL_sG, gL_sLe, gL_sL_ne, u1f_eq, u1f_ne, bnd_iff, not_false_eq_true, Nat.reduceEqDiff]
  exact ⟨q1, q2, q3, q4, q5, q6, ⟨(((g.put1 _ (g 4 (by omega)).2).put2 _ (g 4 (by omega)).1).put1 _ (g 5 (by omega)).2).put2 _ (g 5 (by omega)).1, g0, g1, g2, g7, g4, g5, g6, g3, g8, g9, g10, g11, g12, g13, g14, g15, g16⟩, q8, q9⟩
theorem swp0_eq (c : vmD) (Q : vmD → Prop) : Machine_swap 0 4 c Q = Q (sA (sA c 39 0 (gA c 39 4)) 39 4 (gA c 39 0)) := by
  unfold Machine_swap
  rw [if_neg (by decide), if_pos (by decide), if_neg (by decide), if_pos (by decide), tA (by decide)]
  refine (propext bnd_iff).trans ?_
  rw [tA (by decide)]
  refine (propext bnd_iff).trans ?_
  rw [tA (by decide)]
  refine (propext bnd_iff).trans ?_
  rw [tA (by decide)]
  exact propext bnd_iff
theorem swp1_eq (c : vmD) (Q : vmD → Prop) : Machine_swap 1 5 c Q = Q (sA (sA c 39 1 (gA c 39 5)) 39 5 (gA c 39 1)) := by
  unfold Machine_swap
  rw [if_neg (by decide), if_pos (by decide), if_neg (by decide), if_pos (by decide), tA (by decide)]
  refine (propext bnd_iff).trans ?_
  rw [tA (by decide)]
  refine (propext bnd_iff).trans ?_
  rw [tA (by decide)]
  refine (propext bnd_iff).trans ?_
  rw [tA (by decide)]
  exact propext bnd_iff
theorem swp2_eq (c : vmD) (Q : vmD → Prop) : Machine_swap 2 6 c Q = Q (sA (sA c 39 2 (gA c 39 6)) 39 6 (gA c 39 2)) := by
  unfold Machine_swap
  rw [if_neg (by decide), if_pos (by decide), if_neg (by decide), if_pos (by decide), tA (by decide)]
  refine (propext bnd_iff).trans ?_
  rw [tA (by decide)]
  refine (propext bnd_iff).trans ?_
  rw [tA (by decide)]
  refine (propext bnd_iff).trans ?_
  rw [tA (by decide)]
  exact propext bnd_iff
theorem swp3_eq (c : vmD) (Q : vmD → Prop) : Machine_swap 3 7 c Q = Q (sA (sA c 39 3 (gA c 39 7)) 39 7 (gA c 39 3)) := by
  unfold Machine_swap
  rw [if_neg (by decide), if_pos (by decide), if_neg (by decide), if_pos (by decide), tA (by decide)]
  refine (propext bnd_iff).trans ?_
  rw [tA (by decide)]
  refine (propext bnd_iff).trans ?_
  rw [tA (by decide)]
  refine (propext bnd_iff).trans ?_
  rw [tA (by decide)]
  exact propext bnd_iff
theorem swp23_eq (c : vmD) (Q : vmD → Prop) : Machine_swap 2 3 c Q = Q (sA (sA c 39 2 (gA c 39 3)) 39 3 (gA c 39 2)) := by
  unfold Machine_swap
  rw [if_neg (by decide), if_pos (by decide), if_neg (by decide), if_pos (by decide), tA (by decide)]
  refine (propext bnd_iff).trans ?_
  rw [tA (by decide)]
  refine (propext bnd_iff).trans ?_
  rw [tA (by decide)]
  refine (propext bnd_iff).trans ?_
  rw [tA (by decide)]
  exact propext bnd_iff
def rX (k : Nat) (r : vmD) : vmD := sA (sA r 65 k (gA r 66 k)) 66 k (gA r 65 k)
theorem exch_eq {k : Nat} (hk : k < 8) (r : vmD) (Q : vmD → Prop) : MO_exchange (nI k) r Q = Q (rX k r) := by
  unfold MO_exchange rX
  rw [nI_clamp (by omega), tA (nI_in hk (by omega))]
  refine (propext bnd_iff).trans ?_
  rw [tA (nI_in hk (by omega))]
  refine (propext bnd_iff).trans ?_
  rw [tA (nI_in hk (by omega))]
  refine (propext bnd_iff).trans ?_
  rw [tA (nI_in hk (by omega))]
  exact propext bnd_iff
theorem rX_2 (a b : Nat) (r : vmD) (h : ¬ b = a) : rX b (rX a r) = sA (sA (sA (sA r 65 a (gA r 66 a)) 66 a (gA r 65 a)) 65 b (gA r 66 b)) 66 b (gA r 65 b) := by
  unfold rX
  simp only [gA_sA, gA_sA_ne, gA_sF, gA_sG, gA_sL, gF_sA, gF_sF, gF_sF_ne, gF_sG, gF_sL, gG_sA, gG_sF, gG_sL, gG_sGe, gG_sG_ne, gL_sA, gL_sF, gL_sG, gL_sLe, gL_sL_ne, u1f_eq, u1f_ne, bnd_iff, not_false_eq_true, Nat.reduceEqDiff, u1f_ne _ _ h]
theorem ex_exaf {c r : vmD} (h : Rel c r) (h59 : gF r 42 59 = 0) (h61 : gF r 42 61 = nI (64 * 0 + 8 * 1 + 0)) (x : Int32) : ExOk 33 13 14 x c r := by
  refine ⟨_, _, fun Q hQ => ?_, fun Q hQ => ?_, h.xc0⟩
  · rw [exe33]
    unfold Machine_exchange
    rw [if_pos (by decide), swp0_eq]
    exact hQ
  · rw [doFirst_eq (by omega) (by omega) h61 h59]
    unfold MO_doFirst_26
    rw [h61, opz (by omega) (by omega) (by omega), if_pos (by decide)]
    unfold MO_doNear
    rw [if_neg (by decide), if_pos (by decide)]
    show MO_exchange (nI 7) r _
    rw [exch_eq (by omega)]
    show MO_exchange (nI 6) _ _
    rw [exch_eq (by omega), rX_2 _ _ _ (by decide)]
    exact hQ
theorem exx_loop (c : vmD) (Q : vmD → Prop) (hQ : Q (sA (sA (sA (sA (sA (sA c 39 1 (gA c 39 5)) 39 5 (gA c 39 1)) 39 2 (gA c 39 6)) 39 6 (gA c 39 2)) 39 3 (gA c 39 7)) 39 7 (gA c 39 3))) : ∃ n, Machine_executeFlow_160 Q n 1 c := by
  refine ⟨4, ?_⟩
  unfold Machine_executeFlow_160
  rw [if_neg (by decide)]
  show Machine_swap 1 5 c _
  rw [swp1_eq]
  simp only [bnd_iff]
  unfold Machine_executeFlow_160
  rw [if_neg (by decide)]
  show Machine_swap 2 6 _ _
  rw [swp2_eq]
  simp only [bnd_iff]
  unfold Machine_executeFlow_160
  rw [if_neg (by decide)]
  show Machine_swap 3 7 _ _
  rw [swp3_eq]
  simp only [bnd_iff]
  unfold Machine_executeFlow_160
  rw [if_pos (by decide)]
  simp only [gA_sA, gA_sA_ne, gA_sF, gA_sG, gA_sL, gF_sA, gF_sF, gF_sF_ne, gF_sG, gF_sL, gG_sA, gG_sF, gG_sL, gG_sGe, gG_sG_ne, gL_sA, gL_sF, gL_sG, gL_sLe, gL_sL_ne, u1f_eq, u1f_ne, bnd_iff, not_false_eq_true, Nat.reduceEqDiff]
  exact hQ
theorem rexx_loop (Q : vmD → Prop) : ∀ (q k : Nat) (r : vmD), k + q = 6 → Q (Nat.rec (motive := fun _ => Nat → vmD → vmD) (fun _ r => r) (fun _ ih k r => ih (k + 1) (rX k r)) q k r) → ∃ n, MO_doReturns_71 Q n (nI k) r := by
  intro q
  induction q with
  | zero =>
    intro k r hk hQ
    obtain rfl : k = 6 := by omega
    refine ⟨1, ?_⟩
    unfold MO_doReturns_71
    rw [if_pos (by decide)]
    exact hQ
  | succ q ih =>
    intro k r hk hQ
    obtain ⟨n, hn⟩ := ih (k + 1) (rX k r) (by omega) hQ
    refine ⟨n + 1, ?_⟩
    unfold MO_doReturns_71
    have e5 : ¬ (5 : Int32) < nI k := nI_nlt (b := k) (a := 5) (by omega) (by omega) |> fun h => h
    rw [if_neg e5, exch_eq (by omega)]
    simp only [bnd_iff, nI_1]
    exact hn
theorem ex_exx {c r : vmD} (h : Rel c r) (h59 : gF r 42 59 = 0) (h61 : gF r 42 61 = nI (64 * 3 + 8 * 3 + 1)) (x : Int32) : ExOk 58 0 0 x c r := by
  have h3 := h.xc1.xc2.xc3
  rw [← rX_2 _ _ _ (by decide), ← rX_2 _ _ _ (by decide), ← rX_2 _ _ _ (by decide)] at h3
  refine ⟨_, _, fun Q hQ => ?_, fun Q hQ => ?_, h3⟩
  · simp (config := { decide := true }) only [Machine_execute, Machine_execute_22, Machine_execute_45, Machine_execute_69, Machine_execute_90, Machine_execute_123, Machine_execute_150, Machine_execute_163, Machine_execute_181, Machine_execute_199, Machine_executeFlow, Machine_executeFlow_269, Machine_executeFlow_287, if_true, if_false]
    refine exx_loop c Q ?_
    simp only [gA_sA, gA_sA_ne, gA_sF, gA_sG, gA_sL, gF_sA, gF_sF, gF_sF_ne, gF_sG, gF_sL, gG_sA, gG_sF, gG_sL, gG_sGe, gG_sG_ne, gL_sA, gL_sF, gL_sG, gL_sLe, gL_sL_ne, u1f_eq, u1f_ne, bnd_iff, not_false_eq_true, Nat.reduceEqDiff] at hQ
    exact hQ
  · rw [doLast_eq (by omega) (by omega) h61 h59]
    unfold MO_doLast_26
    rw [h61, opz (by omega) (by omega) (by omega), if_neg (by decide), if_pos (by decide)]
    unfold MO_doReturns
    rw [if_neg (by decide), if_neg (by decide), if_pos (by decide)]
    exact rexx_loop Q 6 0 r (by omega) hQ
theorem ex_exde {c r : vmD} (h : Rel c r) (h59 : gF r 42 59 = 0) (h61 : gF r 42 61 = nI (64 * 3 + 8 * 5 + 3)) (x : Int32) : ExOk 33 10 11 x c r := by
  have hs := (h.sg2 h.gt3.2).sg3 h.gt2.2
  refine ⟨_, _, fun Q hQ => ?_, fun Q hQ => ?_, hs⟩
  · rw [exe33]
    unfold Machine_exchange
    rw [if_neg (by decide), if_pos (by decide), swp23_eq]
    exact hQ
  · rw [doLast_eq (by omega) (by omega) h61 h59]
    unfold MO_doLast_26
    rw [h61, opz (by omega) (by omega) (by omega), if_neg (by decide), if_neg (by decide), if_neg (by decide), if_pos (by decide)]
    unfold MO_doThird
    rw [if_neg (by decide), if_neg (by decide), if_neg (by decide), if_neg (by decide), if_pos (by decide), two2_eq, two4_eq, st2_eq, st4_eq, ← h.gt2.1, ← h.gt3.1]
    exact hQ
theorem rP_g (ix p : Nat) (v : Int32) (r : vmD) {f : Nat} (hf : ¬ f = 75) : gF (rP ix p v r) 42 f = gF r 42 f := by
  unfold rP
  split
  · split <;> rfl
  · split
    · simp only [gF_sF, u1f_ne _ _ hf]
    · rfl
theorem ex_exsp {c r : vmD} (h : Rel c r) {ix : Nat} (hix : ix < 3) (h60 : gF r 42 60 = nI ix) (h59 : gF r 42 59 = 0) (h61 : gF r 42 61 = nI (64 * 3 + 8 * 4 + 3)) (x : Int32) : ExOk 33 28 (kP ix 2) x c r := by
  have h1 := (h.mem (gF r 42 75) (gA c 39 (iP ix 2))).mem (gF r 42 75 + 1) (gA c 39 (iP ix 2) >>> ((8 : Int32) &&& 31))
  have hs := h1.sP (ix := ix) (p := 2) hix (by omega) (rw2 r (gF r 42 75))
  refine ⟨_, _, fun Q hQ => ?_, fun Q hQ => ?_, hs⟩
  · rw [exe33]
    unfold Machine_exchange
    rw [if_neg (by decide), if_neg (by decide), pair_eq hix (by omega)]
    simp only [bnd_iff]
    rw [wat_eq, savePair_eq hix (by omega), h.gt10.1, mw_rw h.2.1]
    have e10 : gA (sA c 39 (iP ix 2) (rw2 r (gF r 42 75) &&& 65535)) 39 10 = gF r 42 75 := by
      rw [gA_sA, u1f_ne _ _ (by unfold iP; rw [if_pos rfl]; split; decide; split <;> decide)]
      exact h.gt10.1
    rw [e10, mstw_eq]
    have ec : ∀ (d : vmD) (a v w : Int32) (j : Nat), cM a v (sA d 39 j w) = sA (cM a v d) 39 j w := fun d a v w j => sA_sA_ne _ _ _ _ _ (by decide)
    rw [ec, ec]
    exact hQ
  · rw [doLast_eq (by omega) (by omega) h61 h59]
    unfold MO_doLast_26
    rw [h61, opz (by omega) (by omega) (by omega), if_neg (by decide), if_neg (by decide), if_neg (by decide), if_pos (by decide)]
    unfold MO_doThird
    rw [if_neg (by decide), if_neg (by decide), if_neg (by decide), if_pos (by decide), wide_eq, base_eq h hix h60, store_eq]
    rw [show gF (rMm (gF r 42 75) (gA c 39 (iP ix 2)) r) 42 75 = gF r 42 75 from rfl, store_eq, setBase_eq hix (by exact h60)]
    exact hQ
theorem ex_lm0 {c r : vmD} (h : Rel c r) (h59 : gF r 42 59 = 0) (h61 : gF r 42 61 = nI (64 * 0 + 8 * 0 + 2)) (x : Int32) : ExOk 36 26 8 x c r := by
  refine ⟨_, _, fun Q hQ => ?_, fun Q hQ => ?_, h.mem (gA c 39 1) (gA r 65 7)⟩
  · rw [exe36]
    unfold Machine_transfer Machine_transfer_14
    rw [po26_eq, if_pos (by decide), po8_eq, if_pos (by decide), h.ld7, svm26_eq, if_neg (by decide), if_neg (by decide), (h.o65 (k := 7) (by omega)).and]
    exact hQ
  · rw [doFirst_eq (by omega) (by omega) h61 h59]
    unfold MO_doFirst_26
    rw [h61, opz (by omega) (by omega) (by omega), if_neg (by decide), if_neg (by decide), if_pos (by decide)]
    unfold MO_doLoad
    rw [if_pos (by decide), two0_eq, ← h.gt1.1]
    unfold MO_doLoad_34
    rw [if_pos (by decide)]
    simp only [bnd_iff, store_eq]
    exact hQ
theorem ex_lm2 {c r : vmD} (h : Rel c r) (h59 : gF r 42 59 = 0) (h61 : gF r 42 61 = nI (64 * 0 + 8 * 2 + 2)) (x : Int32) : ExOk 36 27 8 x c r := by
  refine ⟨_, _, fun Q hQ => ?_, fun Q hQ => ?_, h.mem (gA c 39 2) (gA r 65 7)⟩
  · rw [exe36]
    unfold Machine_transfer Machine_transfer_14
    rw [po27_eq, if_pos (by decide), po8_eq, if_pos (by decide), h.ld7, svm27_eq, if_neg (by decide), if_neg (by decide), (h.o65 (k := 7) (by omega)).and]
    exact hQ
  · rw [doFirst_eq (by omega) (by omega) h61 h59]
    unfold MO_doFirst_26
    rw [h61, opz (by omega) (by omega) (by omega), if_neg (by decide), if_neg (by decide), if_pos (by decide)]
    unfold MO_doLoad
    rw [if_neg (by decide), if_pos (by decide), two2_eq, ← h.gt2.1]
    unfold MO_doLoad_34
    rw [if_neg (by decide), if_neg (by decide), if_pos (by decide)]
    simp only [bnd_iff, store_eq]
    exact hQ
theorem ex_lm6 {c r : vmD} (h : Rel c r) (hn : gF c 19 9 = rw2 r (gF r 42 64)) (h59 : gF r 42 59 = 0) (h61 : gF r 42 61 = nI (64 * 0 + 8 * 6 + 2)) (x : Int32) : ExOk 36 43 8 x c r := by
  refine ⟨_, _, fun Q hQ => ?_, fun Q hQ => ?_, h.mem (rw2 r (gF r 42 64)) (gA r 65 7)⟩
  · rw [exe36]
    unfold Machine_transfer Machine_transfer_14
    rw [po43_eq, if_pos (by decide), po8_eq, if_pos (by decide), h.ld7, svm43_eq, hn, if_neg (by decide), if_neg (by decide), (h.o65 (k := 7) (by omega)).and]
    exact hQ
  · rw [doFirst_eq (by omega) (by omega) h61 h59]
    unfold MO_doFirst_26
    rw [h61, opz (by omega) (by omega) (by omega), if_neg (by decide), if_neg (by decide), if_pos (by decide)]
    unfold MO_doLoad
    rw [if_neg (by decide), if_neg (by decide), wide_eq]
    unfold MO_doLoad_34
    rw [if_neg (by decide), if_neg (by decide), if_neg (by decide), if_neg (by decide), if_neg (by decide), if_pos (by decide)]
    simp only [bnd_iff, store_eq]
    exact hQ
theorem ex_lm1 {c r : vmD} (h : Rel c r) (h59 : gF r 42 59 = 0) (h61 : gF r 42 61 = nI (64 * 0 + 8 * 1 + 2)) (x : Int32) : ExOk 36 8 26 x c r := by
  refine ⟨_, _, fun Q hQ => ?_, fun Q hQ => ?_, h.oct7 (rb_oct h.2.1 (gA c 39 1))⟩
  · rw [exe36]
    unfold Machine_transfer Machine_transfer_14
    rw [po8_eq, if_pos (by decide), po26_eq, if_pos (by decide), ldm26_eq, mb_rb h.2.1, sv7_eq, if_neg (by decide), if_neg (by decide), (rb_oct h.2.1 _).and]
    exact hQ
  · rw [doFirst_eq (by omega) (by omega) h61 h59]
    unfold MO_doFirst_26
    rw [h61, opz (by omega) (by omega) (by omega), if_neg (by decide), if_neg (by decide), if_pos (by decide)]
    unfold MO_doLoad
    rw [if_pos (by decide), two0_eq, ← h.gt1.1]
    unfold MO_doLoad_34
    rw [if_neg (by decide), if_pos (by decide)]
    simp only [bnd_iff, peek_eq]
    exact hQ
theorem ex_lm3 {c r : vmD} (h : Rel c r) (h59 : gF r 42 59 = 0) (h61 : gF r 42 61 = nI (64 * 0 + 8 * 3 + 2)) (x : Int32) : ExOk 36 8 27 x c r := by
  refine ⟨_, _, fun Q hQ => ?_, fun Q hQ => ?_, h.oct7 (rb_oct h.2.1 (gA c 39 2))⟩
  · rw [exe36]
    unfold Machine_transfer Machine_transfer_14
    rw [po8_eq, if_pos (by decide), po27_eq, if_pos (by decide), ldm27_eq, mb_rb h.2.1, sv7_eq, if_neg (by decide), if_neg (by decide), (rb_oct h.2.1 _).and]
    exact hQ
  · rw [doFirst_eq (by omega) (by omega) h61 h59]
    unfold MO_doFirst_26
    rw [h61, opz (by omega) (by omega) (by omega), if_neg (by decide), if_neg (by decide), if_pos (by decide)]
    unfold MO_doLoad
    rw [if_neg (by decide), if_pos (by decide), two2_eq, ← h.gt2.1]
    unfold MO_doLoad_34
    rw [if_neg (by decide), if_neg (by decide), if_neg (by decide), if_pos (by decide)]
    simp only [bnd_iff, peek_eq]
    exact hQ
theorem ex_lm7 {c r : vmD} (h : Rel c r) (hn : gF c 19 9 = rw2 r (gF r 42 64)) (h59 : gF r 42 59 = 0) (h61 : gF r 42 61 = nI (64 * 0 + 8 * 7 + 2)) (x : Int32) : ExOk 36 8 43 x c r := by
  refine ⟨_, _, fun Q hQ => ?_, fun Q hQ => ?_, h.oct7 (rb_oct h.2.1 (rw2 r (gF r 42 64)))⟩
  · rw [exe36]
    unfold Machine_transfer Machine_transfer_14
    rw [po8_eq, if_pos (by decide), po43_eq, if_pos (by decide), ldm43_eq, hn, mb_rb h.2.1, sv7_eq, if_neg (by decide), if_neg (by decide), (rb_oct h.2.1 _).and]
    exact hQ
  · rw [doFirst_eq (by omega) (by omega) h61 h59]
    unfold MO_doFirst_26
    rw [h61, opz (by omega) (by omega) (by omega), if_neg (by decide), if_neg (by decide), if_pos (by decide)]
    unfold MO_doLoad
    rw [if_neg (by decide), if_neg (by decide), wide_eq]
    unfold MO_doLoad_34
    rw [if_neg (by decide), if_neg (by decide), if_neg (by decide), if_neg (by decide), if_neg (by decide), if_neg (by decide), if_pos (by decide)]
    simp only [bnd_iff, peek_eq]
    exact hQ
theorem ex_lm4 {c r : vmD} (h : Rel c r) {ix : Nat} (hix : ix < 3) (h60 : gF r 42 60 = nI ix) (hn : gF c 19 9 = rw2 r (gF r 42 64)) (h59 : gF r 42 59 = 0) (h61 : gF r 42 61 = nI (64 * 0 + 8 * 4 + 2)) (x : Int32) : ExOk 36 43 (kP ix 2) x c r := by
  refine ⟨_, _, fun Q hQ => ?_, fun Q hQ => ?_, (h.mem (rw2 r (gF r 42 64)) (gA c 39 (iP ix 2))).mem (rw2 r (gF r 42 64) + 1) (gA c 39 (iP ix 2) >>> ((8 : Int32) &&& 31))⟩
  · rw [exe36]
    unfold Machine_transfer Machine_transfer_14
    rw [po43_eq, if_pos (by decide), po_kP hix (by omega), if_neg (nI_pos (by have := iP_b (ix := ix) (p := 2) (by omega); omega)), pair_eq hix (by omega), sp43_eq, hn]
    exact hQ
  · rw [doFirst_eq (by omega) (by omega) h61 h59]
    unfold MO_doFirst_26
    rw [h61, opz (by omega) (by omega) (by omega), if_neg (by decide), if_neg (by decide), if_pos (by decide)]
    unfold MO_doLoad
    rw [if_neg (by decide), if_neg (by decide), wide_eq]
    unfold MO_doLoad_34
    rw [if_neg (by decide), if_neg (by decide), if_neg (by decide), if_neg (by decide), if_pos (by decide)]
    rw [base_eq h hix h60, store_eq, store_eq]
    exact hQ
theorem ex_lm5 {c r : vmD} (h : Rel c r) {ix : Nat} (hix : ix < 3) (h60 : gF r 42 60 = nI ix) (hn : gF c 19 9 = rw2 r (gF r 42 64)) (h59 : gF r 42 59 = 0) (h61 : gF r 42 61 = nI (64 * 0 + 8 * 5 + 2)) (x : Int32) : ExOk 36 (kP ix 2) 43 x c r := by
  refine ⟨_, _, fun Q hQ => ?_, fun Q hQ => ?_, h.sP (ix := ix) (p := 2) hix (by omega) (rw2 r (rw2 r (gF r 42 64)))⟩
  · rw [exe36]
    unfold Machine_transfer Machine_transfer_14
    rw [po_kP hix (by omega), if_neg (nI_pos (by have := iP_b (ix := ix) (p := 2) (by omega); omega)), pr43_eq, hn, mw_rw h.2.1, savePair_eq hix (by omega)]
    exact hQ
  · rw [doFirst_eq (by omega) (by omega) h61 h59]
    unfold MO_doFirst_26
    rw [h61, opz (by omega) (by omega) (by omega), if_neg (by decide), if_neg (by decide), if_pos (by decide)]
    unfold MO_doLoad
    rw [if_neg (by decide), if_neg (by decide), wide_eq]
    unfold MO_doLoad_34
    rw [if_neg (by decide), if_neg (by decide), if_neg (by decide), if_neg (by decide), if_neg (by decide), if_neg (by decide), if_neg (by decide)]
    rw [wide_eq, setBase_eq hix h60]
    exact hQ
theorem out_eq (p v : Int32) (c : vmD) (Q : vmD → Prop) : Machine_putOut p v c Q = Q (sG (sA c 41 (p &&& 255).toNatClampNeg v) 38 5 (gG c 38 5 + 1)) := by
  unfold Machine_putOut
  rw [tA (ix_and255 p)]
  exact (propext bnd_iff).trans (propext bnd_iff)
theorem rout_eq (p v : Int32) (c : vmD) (Q : vmD → Prop) : MO_outPort p v c Q = Q (sG (sA c 69 (p &&& 255).toNatClampNeg (v &&& 255)) 42 86 (gG c 42 86 + 1)) := by
  unfold MO_outPort
  rw [tA (ix_and255 p)]
  exact (propext bnd_iff).trans (propext bnd_iff)
theorem Rel.outp {c r : vmD} (h : Rel c r) (p : Int32) {v : Int32} (hv : oct v) : Rel (sG (sA c 41 (p &&& 255).toNatClampNeg v) 38 5 (gG c 38 5 + 1)) (sG (sA r 69 (p &&& 255).toNatClampNeg (v &&& 255)) 42 86 (gG r 42 86 + 1)) := by
  rw [hv.and]
  obtain ⟨j, hj, e⟩ := oct_and p
  rw [e, nI_clamp (by omega)]
  exact h.out hj v
theorem inp_eq {c r : vmD} (h : Rel c r) {p : Int32} (hp : oct p) : gA c 40 p.toNatClampNeg = gA r 68 p.toNatClampNeg ∧ oct (gA r 68 p.toNatClampNeg) ∧ ixOk p 256 := by
  obtain ⟨j, hj, rfl⟩ := hp
  rw [nI_clamp (by omega)]
  have := h.2.2.2.2.2.2.2.1.1 j hj
  exact ⟨this.1, this.1 ▸ this.2.1, nI_in hj (by omega)⟩
theorem exe60 (f e x : Int32) (c : vmD) (Q : vmD → Prop) : Machine_execute 60 f e x c Q = if f = 29 then Machine_load e c fun v d => Machine_putOut (gA c 39 1) v d Q else Machine_load e c fun v d => Machine_putOut (gF c 19 9) v d Q := by
  simp (config := { decide := true }) only [Machine_execute, Machine_execute_22, Machine_execute_45, Machine_execute_69, Machine_execute_90, Machine_execute_123, Machine_execute_150, Machine_execute_163, Machine_execute_181, Machine_execute_199, Machine_executeFlow, Machine_executeFlow_269, Machine_executeFlow_287, if_true, if_false, Machine_executeFlow_232, nu_eq, bnd_iff]
theorem ex_outn {c r : vmD} (h : Rel c r) (hn : gF c 19 9 = rb r (gF r 42 64)) (h59 : gF r 42 59 = 0) (h61 : gF r 42 61 = nI (64 * 3 + 8 * 2 + 3)) (x : Int32) : ExOk 60 42 8 x c r := by
  refine ⟨_, _, fun Q hQ => ?_, fun Q hQ => ?_, h.outp (rb r (gF r 42 64)) (h.o65 (k := 7) (by omega))⟩
  · rw [exe60, if_neg (by decide), h.ld7, out_eq, hn]
    exact hQ
  · rw [doLast_eq (by omega) (by omega) h61 h59]
    unfold MO_doLast_26
    rw [h61, opz (by omega) (by omega) (by omega), if_neg (by decide), if_neg (by decide), if_neg (by decide), if_pos (by decide)]
    unfold MO_doThird
    rw [if_neg (by decide), if_pos (by decide), peek_eq]
    simp only [bnd_iff, rout_eq]
    exact hQ
theorem ex_inn {c r : vmD} (h : Rel c r) (hn : gF c 19 9 = rb r (gF r 42 64)) (h59 : gF r 42 59 = 0) (h61 : gF r 42 61 = nI (64 * 3 + 8 * 3 + 3)) (x : Int32) : ExOk 61 8 42 x c r := by
  have ho := rb_oct h.2.1 (gF r 42 64)
  obtain ⟨i1, i2, i3⟩ := inp_eq h ho
  refine ⟨_, _, fun Q hQ => ?_, fun Q hQ => ?_, h.oct7 i2⟩
  · rw [exe61]
    unfold Machine_takeIn
    rw [if_pos (by decide), nu_eq, hn, ho.and, tA i3]
    simp only [bnd_iff, sv7_eq, i1, i2.and]
    exact hQ
  · rw [doLast_eq (by omega) (by omega) h61 h59]
    unfold MO_doLast_26
    rw [h61, opz (by omega) (by omega) (by omega), if_neg (by decide), if_neg (by decide), if_neg (by decide), if_pos (by decide)]
    unfold MO_doThird
    rw [if_neg (by decide), if_neg (by decide), if_pos (by decide), peek_eq, tA i3]
    simp only [bnd_iff]
    exact hQ
