/-! A step, whole -/
theorem sA_self (d : vmD) (o j : Nat) : sA d o j (gA d o j) = d := by
  refine D_ext (fun _ => rfl) (fun _ => rfl) (fun x => ?_) (fun _ => rfl)
  by_cases h : x = o
  · subst h
    rw [gA_sA]
    funext k
    unfold u1f
    split
    · subst_vars
      rfl
    · rfl
  · rw [gA_sA_ne _ _ _ h]
theorem halt_eq {c r : vmD} (h : Rel c r) (x : Int32) (Q : vmD → Prop) : Machine_execute 47 0 0 x c Q = Q c := by
  simp (config := { decide := true }) only [Machine_execute, Machine_execute_22, Machine_execute_45, Machine_execute_69, Machine_execute_90, Machine_execute_123, Machine_execute_150, Machine_execute_163, Machine_execute_181, Machine_execute_199, Machine_executeFlow, Machine_executeFlow_269, Machine_executeFlow_287, if_true, if_false, Machine_executeRest, h.ld7, h.fl_eq]
theorem w_47 : ∀ g, g < 7 → ∀ k, k < 256 → tabS (256 * g + k) < 0 ∨ (decide (wV (256 * g + k) = 47) = (decide (g = 0) && decide (k = 118))) := by decide +kernel
theorem w_63 : ∀ g, g < 7 → ∀ k, k < 256 → tabS (256 * g + k) < 0 ∨ (decide (wV (256 * g + k) = 63) = (decide (g = 0) && decide (k = 251))) := by decide +kernel
theorem i3_0 : ∀ g, g < 7 → ((i3V g = 0 ∧ nI (ixV g) = 0) ↔ g = 0) := by decide
/-- the class's state where it executes, the reference's where it works -/
def cE (c : vmD) (n v : Int32) : vmD := sF (sA (sA c 39 13 (x13 n (gA c 39 13))) 39 11 v) 38 9 0
def rE (r : vmD) (n v : Int32) : vmD := sF (sF (sF r 42 73 (x13 n (gF r 42 73))) 42 85 0) 42 76 v
theorem Rel.E {c r : vmD} (h : Rel c r) (n : Int32) {v : Int32} (hv : wrd v) : Rel (cE c n v) (rE r n v) := (h.fresh n).sg11 hv
set_option maxHeartbeats 4000000 in
theorem step_ok : StepOk := by
  intro c r hR
  by_cases ht : takes c
  · have hq : ¬ gF c 38 7 = 0 ∨ gF c 38 6 = 1 := by
      rcases ht with q | ⟨q, -, -⟩
      · exact Or.inl q
      · exact Or.inr (hR.2.2.2.2.2.2.2.2.2.2.2.1.resolve_left q)
    obtain ⟨c2, r2, e1, e2, h2⟩ := take_ok hR hq
    refine ⟨2, c2, r2, by decide, fun Q hQ => ?_, fun Q hQ => ?_, h2⟩
    · rw [adv_yes ht]
      exact e1 _ hQ
    · unfold MO_step
      rw [rtr_yes hR ht]
      refine e2 _ ?_
      rw [if_neg (by decide)]
      exact hQ
  obtain ⟨hpc, hw⟩ := hR.gt11
  have hstep : ∀ Q, MO_step r Q = MO_decode (gF r 42 76) r fun r_5 d_4 => if r_5 = 0 then (Q 0 d_4) else (if (gF d_4 42 59) = 0 then (if (gF d_4 42 60) = 0 then (MO_step_42 1 d_4 Q) else (MO_step_41 d_4 Q)) else (MO_step_41 d_4 Q)) := by
    intro Q
    unfold MO_step
    rw [rtr_no hR ht, if_pos rfl]
  have hadv : ∀ Q, Machine_advance c Q = Instruction_look (gF r 42 76) c fun d_4 => Instruction_exists d_4 fun r_6 d_5 => if r_6 = 0 then (Q 0 d_5) else (Instruction_word d_5 fun r_9 d_8 => if r_9 = 47 then (Machine_advance_83 (gF r 42 76) 1 d_8 Q) else (Machine_advance_83 (gF r 42 76) 0 d_8 Q)) := by
    intro Q
    rw [adv_no ht]
    unfold Machine_advance_38
    refine (propext bnd_iff).trans ?_
    rw [hpc]
  obtain ⟨g, k, hg, hk, hld, hk0, hlk⟩ := look_all hR (gF r 42 76)
  rcases hlk with ⟨hs, ⟨op, di, hl⟩, a0, a1, a2, a3, a4, a5, hd⟩ | ⟨hs, b, di, d2, oa, hl, hd, hnr, hb, hoa, -⟩
  · refine ⟨0, lS c op 0 101 36 0 1 di (rb r (gF r 42 76)), dS r a0 a1 a2 a3 a4 a5, by decide, fun Q hQ => ?_, fun Q hQ => ?_, ?_⟩
    · rw [hadv, hl]
      unfold Instruction_exists
      rw [lg_3]
      refine ⟨Or.inl rfl, ?_⟩
      dsimp only
      rw [if_pos rfl]
      exact hQ
    · rw [hstep, hd, if_pos rfl]
      exact hQ
    · rw [Rel.lS, Rel.dS]
      exact hR
  generalize hc1 : lS c (nI k) 1 (wV (256 * g + k)) (fV (256 * g + k)) (eV (256 * g + k)) (zV g k) di (nuV (nkV (256 * g + k)) b (nI k) r) = c1 at hl
  generalize hr1 : dS r (i3V g) (nI (ixV g)) d2 (nI k) oa (zV g k) = r1 at hd
  have h1 : Rel c1 r1 := by
    rw [← hc1, ← hr1, Rel.lS, Rel.dS]
    exact hR
  have c3 : gF c1 19 3 = 1 := by rw [← hc1, lg_3]
  have c5 : gF c1 19 5 = wV (256 * g + k) := by rw [← hc1, lg_5]
  have c6 : gF c1 19 6 = fV (256 * g + k) := by rw [← hc1, lg_6]
  have c7 : gF c1 19 7 = eV (256 * g + k) := by rw [← hc1, lg_7]
  have c10 : gF c1 19 10 = zV g k := by rw [← hc1, lg_10]
  have c8 : gF c1 19 8 = di := by rw [← hc1, lg_8]
  have c9 : gF c1 19 9 = nuV (nkV (256 * g + k)) b (nI k) r := by rw [← hc1, lg_9]
  have cmb : ∀ x, mb c1 x = rb r x := fun x => by rw [← hc1, mb_lS, mb_rb hR.2.1]
  have r59 : gF r1 42 59 = i3V g := by rw [← hr1, dg_59]
  have r60 : gF r1 42 60 = nI (ixV g) := by rw [← hr1, dg_60]
  have r61 : gF r1 42 61 = nI k := by rw [← hr1, dg_61]
  have r62 : gF r1 42 62 = d2 := by rw [← hr1, dg_62]
  have r63 : gF r1 42 63 = zV g k := by rw [← hr1, dg_63]
  have r64 : gF r1 42 64 = oa := by rw [← hr1, dg_64]
  have r76 : gF r1 42 76 = gF r 42 76 := by rw [← hr1, dg_x _ _ _ _ _ _ _ (by decide) (by decide) (by decide) (by decide) (by decide) (by decide)]
  have rrb : ∀ x, rb r1 x = rb r x := fun x => by rw [← hr1, rb_dS]
  obtain ⟨n, hn⟩ : ∃ n : Int32, n = if g = 0 then 1 else 2 := ⟨_, rfl⟩
  have hrf : ∀ Q, Machine_refresh (rb r (gF r 42 76)) c1 Q = Q (sA c1 39 13 (x13 n (gA c1 39 13))) := by
    intro Q
    rw [hn]
    by_cases e : g = 0
    · rw [if_pos e]
      obtain ⟨q1, q2, q3, q4⟩ := hld.1 e
      exact refp_eq q1 q2 q3 q4 _ _
    · rw [if_neg e]
      exact refx_eq (hld.2 e) _ _
  have hadv2 : ∀ Q, Machine_advance c Q = if wV (256 * g + k) = 47 then (Machine_advance_83 (gF r 42 76) 1 c1 Q) else (Machine_advance_83 (gF r 42 76) 0 c1 Q) := by
    intro Q
    rw [hadv, hl]
    unfold Instruction_exists Instruction_word
    rw [c3, tA (Or.inr rfl)]
    dsimp only
    rw [if_neg (by decide), c5]
  have hstep2 : ∀ Q, MO_step r Q = MO_step_42 n r1 Q := by
    intro Q
    rw [hstep, hd, if_neg (by decide), r59, r60, hn]
    have e := i3_0 g hg
    by_cases e0 : g = 0
    · obtain ⟨q1, q2⟩ := e.mpr e0
      rw [if_pos q1, if_pos q2, if_pos e0]
    · rw [if_neg e0]
      by_cases q1 : i3V g = 0
      · by_cases q2 : nI (ixV g) = 0
        · exact absurd (e.mp ⟨q1, q2⟩) e0
        · rw [if_pos q1, if_neg q2]
          rfl
      · rw [if_neg q1]
        rfl
  have h83 : ∀ (s0 v : Int32) Q, (if s0 = 0 then ((gF r 42 76) + zV g k) &&& 65535 else gF r 42 76) = v → Machine_advance_83 (gF r 42 76) s0 c1 Q = if wV (256 * g + k) = 63 then Machine_advance_141 (gF r 42 76) s0 1 (sA (sA c1 39 13 (x13 n (gA c1 39 13))) 39 11 v) Q else Machine_advance_141 (gF r 42 76) s0 0 (sA (sA c1 39 13 (x13 n (gA c1 39 13))) 39 11 v) Q := by
    intro s0 v Q hv
    have h122 : ∀ v Q, Machine_advance_122 (gF r 42 76) s0 v 11 (sA c1 39 13 (x13 n (gA c1 39 13))) Q = if wV (256 * g + k) = 63 then Machine_advance_141 (gF r 42 76) s0 1 (sA (sA c1 39 13 (x13 n (gA c1 39 13))) 39 11 v) Q else Machine_advance_141 (gF r 42 76) s0 0 (sA (sA c1 39 13 (x13 n (gA c1 39 13))) 39 11 v) Q := by
      intro v Q
      unfold Machine_advance_122 Instruction_word
      rw [tA (by decide)]
      refine (propext bnd_iff).trans ?_
      rw [gF_sA, gF_sA, c5]
      rfl
    unfold Machine_advance_83 Instruction_size
    rw [mat_eq, cmb, hrf]
    dsimp only
    rw [gF_sA, c10]
    by_cases e : s0 = 0
    · rw [if_pos e] at hv ⊢
      subst hv
      exact h122 _ Q
    · rw [if_neg e] at hv ⊢
      subst hv
      exact h122 _ Q
  have h42 : ∀ Q, MO_step_42 n r1 Q = if g = 0 ∧ k = 118 then Q 3 (sF (sF r1 42 73 (x13 n (gF r1 42 73))) 42 85 0) else dispR (gF r 42 76) (rE r1 n (((gF r 42 76) + zV g k) &&& 65535)) (fun e => Q 1 e) := by
    intro Q
    unfold MO_step_42 MO_goOn
    refine (propext bnd_iff).trans ?_
    refine (propext bnd_iff).trans ?_
    refine (propext bnd_iff).trans ?_
    show (if gF (sF (sF r1 42 73 (x13 n (gF r1 42 73))) 42 85 0) 42 59 = 0 then _ else _) = _
    simp only [step80_eq, gF_sF, u1f_ne, Nat.reduceEqDiff, not_false_eq_true, r59, r60, r61, r63, r76]
    have e := i3_0 g hg
    by_cases e0 : g = 0
    · obtain ⟨q1, q2⟩ := e.mpr e0
      rw [if_pos q1, if_pos q2]
      by_cases ek : k = 118
      · rw [if_pos (by rw [ek]; rfl), if_pos ⟨e0, ek⟩]
        rfl
      · rw [if_neg (show ¬ nI k = 118 from fun q => ek ((nI_eq (b := 118) (by omega) (by omega)).mp q)), if_neg (show ¬ (g = 0 ∧ k = 118) from fun q => ek q.2)]
        rfl
    · rw [if_neg (show ¬ (g = 0 ∧ k = 118) from fun q => e0 q.1)]
      by_cases q1 : i3V g = 0
      · by_cases q2 : nI (ixV g) = 0
        · exact absurd (e.mp ⟨q1, q2⟩) e0
        · rw [if_pos q1, if_neg q2]
          rfl
      · rw [if_neg q1]
        rfl
  have w47 := (w_47 g hg k hk).resolve_left hs
  have w63 := (w_63 g hg k hk).resolve_left hs
  by_cases hh : g = 0 ∧ k = 118
  · have e47 : wV (256 * g + k) = 47 := of_decide_eq_true (by rw [w47, hh.1, hh.2]; rfl)
    have e63 : ¬ wV (256 * g + k) = 63 := by rw [e47]; decide
    have e6 : fV (256 * g + k) = 0 := by rw [hh.1, hh.2]; exact (cdB_ok t_halt).2.2.1
    have e7 : eV (256 * g + k) = 0 := by rw [hh.1, hh.2]; exact (cdB_ok t_halt).2.2.2
    have h2 := h1.fresh n
    have ec : sF (sA (sA c1 39 13 (x13 n (gA c1 39 13))) 39 11 (gF r 42 76)) 38 9 0 = sF (sA c1 39 13 (x13 n (gA c1 39 13))) 38 9 0 := by
      have q : sA (sA c1 39 13 (x13 n (gA c1 39 13))) 39 11 (gF r 42 76) = sA c1 39 13 (x13 n (gA c1 39 13)) := by
        have q2 : gF r 42 76 = gA (sA c1 39 13 (x13 n (gA c1 39 13))) 39 11 := by
          rw [gA_sA, u1f_ne _ _ (by decide), ← r76, h1.gt11.1]
        rw [q2]
        exact sA_self _ _ _
      rw [q]
    refine ⟨3, _, _, by decide, fun Q hQ => ?_, fun Q hQ => ?_, h2⟩
    · rw [hadv2, if_pos e47, h83 1 (gF r 42 76) Q (if_neg (by decide)), if_neg e63]
      unfold Machine_advance_141 Instruction_word Instruction_first Instruction_second
      rw [tA (Or.inl rfl)]
      refine bnd_iff.mpr ?_
      rw [ec]
      dsimp only
      have g5 : gF (sF (sA c1 39 13 (x13 n (gA c1 39 13))) 38 9 0) 19 = gF c1 19 := by rw [gF_sF_ne _ _ _ (by decide), gF_sA]
      rw [g5, c5, c6, c7, e47, e6, e7, halt_eq h2, if_neg (by decide)]
      exact hQ
    · rw [hstep2, h42, if_pos hh]
      exact hQ
  have e47 : ¬ wV (256 * g + k) = 47 := by
    refine of_decide_eq_false ?_
    rw [w47, ← Bool.not_eq_true, Bool.and_eq_true, decide_eq_true_eq, decide_eq_true_eq]
    exact hh
  have h3 := h1.E n (v := ((gF r 42 76) + zV g k) &&& 65535) (wrd_and _)
  have hnC : gF (cE c1 n (((gF r 42 76) + zV g k) &&& 65535)) 19 = gF c1 19 := by
    unfold cE
    rw [gF_sF_ne _ _ _ (by decide), gF_sA, gF_sA]
  have hrE : ∀ f, ¬ f = 76 → ¬ f = 85 → ¬ f = 73 → gF (rE r1 n (((gF r 42 76) + zV g k) &&& 65535)) 42 f = gF r1 42 f := by
    intro f f1 f2 f3
    unfold rE
    rw [gF_sF, u1f_ne _ _ f1, gF_sF, u1f_ne _ _ f2, gF_sF, u1f_ne _ _ f3]
  have hrE7 : gF (rE r1 n (((gF r 42 76) + zV g k) &&& 65535)) 42 76 = ((gF r 42 76) + zV g k) &&& 65535 := by
    unfold rE
    rw [gF_sF, u1f_eq]
  have hrb : ∀ x, rb (rE r1 n (((gF r 42 76) + zV g k) &&& 65535)) x = rb r x := fun x => by
    unfold rE
    rw [rb_sF, rb_sF, rb_sF, rrb]
  by_cases he : g = 0 ∧ k = 251
  · obtain ⟨rfl, rfl⟩ := he
    obtain ⟨-, q5, q6, q7⟩ := cdB_ok t_ei
    obtain ⟨c2, r2, E1, E2, h2⟩ := ex_ei h3 (by rw [hrE _ (by decide) (by decide) (by decide), r59]; rfl) (by rw [hrE _ (by decide) (by decide) (by decide), r61]) (gF r 42 76)
    refine ⟨1, c2, r2, by decide, fun Q hQ => ?_, fun Q hQ => ?_, h2⟩
    · rw [hadv2, if_neg e47, h83 0 _ Q (if_pos rfl), if_pos q5]
      unfold Machine_advance_141 Instruction_word Instruction_first Instruction_second
      rw [tA (Or.inr rfl)]
      refine bnd_iff.mpr ?_
      dsimp only
      have g5 : gF (sF (sA (sA c1 39 13 (x13 n (gA c1 39 13))) 39 11 (((gF r 42 76) + zV 0 251) &&& 65535)) 38 9 1) 19 = gF c1 19 := by rw [gF_sF_ne _ _ _ (by decide), gF_sA, gF_sA]
      rw [g5, c5, c6, c7, q5, q6, q7]
      have ee := E1 (fun d => if (0 : Int32) = 0 then Q 1 d else Q 3 d) (by rw [if_pos rfl]; exact hQ)
      unfold cE at ee
      rw [sF_same] at ee
      exact ee
    · rw [hstep2, h42, if_neg hh]
      exact E2 _ hQ
  · have e63 : ¬ wV (256 * g + k) = 63 := by
      refine of_decide_eq_false ?_
      rw [w63, ← Bool.not_eq_true, Bool.and_eq_true, decide_eq_true_eq, decide_eq_true_eq]
      exact he
    have nuE : ∀ kd b op, nuV kd b op r = nuV kd b op (rE r1 n (((gF r 42 76) + zV g k) &&& 65535)) := by
      intro kd b op
      unfold nuV rw2
      simp only [hrb]
    have D : Dec (cE c1 n (((gF r 42 76) + zV g k) &&& 65535)) (rE r1 n (((gF r 42 76) + zV g k) &&& 65535)) (gF r 42 76) b g k := by
      refine ⟨h3, ?_, ?_, ?_, fun q => ?_, ?_, fun q => ?_, fun q0 qz => ?_, hw⟩
      · rw [hrE _ (by decide) (by decide) (by decide), r59]
      · rw [hrE _ (by decide) (by decide) (by decide), r60]
      · rw [hrE _ (by decide) (by decide) (by decide), r61]
      · rw [hnC, c8, hrE _ (by decide) (by decide) (by decide), r62]
        exact (hnr q).1
      · rw [hnC, c9]
        exact nuE _ _ _
      · rw [hrE _ (by decide) (by decide) (by decide), r64]
        exact hb q
      · rw [hrE7, hrE 64 (by decide) (by decide) (by decide), r64, hoa q0, qz, add11]
    obtain ⟨c2, r2, E1, E2, h2⟩ := disp_all hg hk hs hh he D
    refine ⟨1, c2, r2, by decide, fun Q hQ => ?_, fun Q hQ => ?_, h2⟩
    · rw [hadv2, if_neg e47, h83 0 _ Q (if_pos rfl), if_neg e63]
      unfold Machine_advance_141 Instruction_word Instruction_first Instruction_second
      rw [tA (Or.inl rfl)]
      refine bnd_iff.mpr ?_
      dsimp only
      have g5 : gF (sF (sA (sA c1 39 13 (x13 n (gA c1 39 13))) 39 11 (((gF r 42 76) + zV g k) &&& 65535)) 38 9 0) 19 = gF c1 19 := by rw [gF_sF_ne _ _ _ (by decide), gF_sA, gF_sA]
      rw [g5, c5, c6, c7]
      exact E1 (fun d => if (0 : Int32) = 0 then Q 1 d else Q 3 d) (by rw [if_pos rfl]; exact hQ)
    · rw [hstep2, h42, if_neg hh]
      exact E2 _ hQ
theorem ok_step : Ok_step Rel := ok_step_of step_ok
theorem ok_run : Ok_run Rel := ok_run_of step_ok
