/-! Families: the other jumps, the stack, exchanges, loads through memory -/
theorem and_add (a s : Int32) : ((a &&& 65535) + s) &&& 65535 = (a + s) &&& 65535 := by
  apply Int32.toBitVec_inj.mp
  have e : (65535 : Int32).toBitVec = 65535#32 := rfl
  rw [Int32.toBitVec_and, Int32.toBitVec_and, Int32.toBitVec_add, Int32.toBitVec_add, Int32.toBitVec_and, e]
  apply BitVec.eq_of_toNat_eq
  have h16 : ∀ v : BitVec 32, (v &&& 65535#32).toNat = v.toNat % 65536 := by
    intro v
    rw [BitVec.toNat_and]
    exact Nat.and_two_pow_sub_one_eq_mod v.toNat 16
  rw [h16, h16, BitVec.toNat_add, BitVec.toNat_add, h16]
  omega
theorem sgn_eq : ∀ n, n < 256 → MO_signed_v (nI n) = Int8.toInt32 (Int32.toInt8 (nI n)) := by decide +kernel
theorem sgn_o {x : Int32} (h : oct x) : MO_signed_v x = Int8.toInt32 (Int32.toInt8 x) := by
  obtain ⟨n, hn, rfl⟩ := h
  exact sgn_eq n hn
theorem near79_eq (b : Int32) (r : vmD) (Q : vmD → Prop) : MO_doNear_79 b r Q = if b = 0 then Q r else Q (sF r 42 76 ((gF r 42 76 + MO_signed_v (rb r (gF r 42 64))) &&& 65535)) := by
  unfold MO_doNear_79
  simp only [peek_eq, MO_signed_e, bnd_iff]
/-- what JR and DJNZ read -/
def tgt (c r : vmD) : Prop := gF c 19 9 = ((gF r 42 64 + 1) + Int8.toInt32 (Int32.toInt8 (rb r (gF r 42 64)))) &&& 65535 ∧ gF r 42 76 = (gF r 42 64 + 1) &&& 65535
theorem Rel.jr {c r : vmD} (h : Rel c r) (ht : tgt c r) : Rel (sA c 39 11 (gF c 19 9)) (sF r 42 76 ((gF r 42 76 + MO_signed_v (rb r (gF r 42 64))) &&& 65535)) := by
  rw [ht.1, ht.2, and_add, sgn_o (rb_oct h.2.1 _)]
  exact h.sg11 (wrd_and _)
theorem ex_jr {c r : vmD} (h : Rel c r) (ht : tgt c r) (h59 : gF r 42 59 = 0) (h61 : gF r 42 61 = nI (64 * 0 + 8 * 3 + 0)) (x : Int32) : ExOk 35 38 0 x c r := by
  refine ⟨_, _, fun Q hQ => ?_, fun Q hQ => ?_, h.jr ht⟩
  · rw [exe35]
    unfold Machine_jump
    simp (config := { decide := true }) only [Machine_isCondition, Machine_isCondition_12, if_true, if_false]
    rw [j16_jp (Or.inr rfl) (by decide) (by decide) (by decide)]
    exact hQ
  · rw [doFirst_eq (by omega) (by omega) h61 h59]
    unfold MO_doFirst_26
    rw [h61, opz (by omega) (by omega) (by omega), if_pos (by decide)]
    unfold MO_doNear
    rw [if_neg (by decide), if_neg (by decide), if_neg (by decide), if_neg (by decide), near79_eq, if_neg (by decide)]
    exact hQ
theorem cK_m {y : Nat} (h4 : 4 ≤ y) (hy : y < 8) : nI y - 4 = nI (y - 4) := by
  rcases (show y = 4 ∨ y = 5 ∨ y = 6 ∨ y = 7 by omega) with rfl | rfl | rfl | rfl <;> rfl
theorem ex_jrc {c r : vmD} (h : Rel c r) {y : Nat} (h4 : 4 ≤ y) (hy : y < 8) (ht : tgt c r) (h59 : gF r 42 59 = 0) (h61 : gF r 42 61 = nI (64 * 0 + 8 * y + 0)) (x : Int32) : ExOk 35 (cK (y - 4)) 38 x c r := by
  have e1 : ¬ nI y = 0 := nI_ne0 (by omega) (by omega)
  have e2 : ¬ nI y = 1 := fun e => absurd ((nI_eq (b := 1) (by omega) (by omega)).mp e) (by omega)
  have e3 : ¬ nI y = 2 := fun e => absurd ((nI_eq (b := 2) (by omega) (by omega)).mp e) (by omega)
  have e4 : (3 : Int32) < nI y := nI_lt (a := 3) (by omega) (by omega)
  by_cases hb : hV (y - 4) (gA r 65 6) = 0
  · refine ⟨c, r, fun Q hQ => ?_, fun Q hQ => ?_, h⟩
    · rw [exe35, jump_c h (by omega), if_pos hb]; exact hQ
    · rw [doFirst_eq (by omega) (by omega) h61 h59]
      unfold MO_doFirst_26
      rw [h61, opz (by omega) (by omega) (by omega), if_pos (by decide)]
      unfold MO_doNear
      rw [if_neg e1, if_neg e2, if_neg e3, if_pos e4, cK_m h4 hy, rholds_eq (by omega), near79_eq, if_pos hb]
      exact hQ
  · refine ⟨_, _, fun Q hQ => ?_, fun Q hQ => ?_, h.jr ht⟩
    · rw [exe35, jump_c h (by omega), if_neg hb, j16_jp (Or.inr rfl) (j16_ne (by omega)).1 (j16_ne (by omega)).2.1 (j16_ne (by omega)).2.2]; exact hQ
    · rw [doFirst_eq (by omega) (by omega) h61 h59]
      unfold MO_doFirst_26
      rw [h61, opz (by omega) (by omega) (by omega), if_pos (by decide)]
      unfold MO_doNear
      rw [if_neg e1, if_neg e2, if_neg e3, if_pos e4, cK_m h4 hy, rholds_eq (by omega), near79_eq, if_neg hb]
      exact hQ
theorem exe34 (f e x : Int32) (c : vmD) (Q : vmD → Prop) : Machine_execute 34 f e x c Q = Machine_load 1 c fun v d => Machine_save 1 (v - 1) d fun d2 => Machine_load 1 d2 fun w d3 => if w = 0 then Q d3 else Q (sA d3 39 11 (gF d3 19 9)) := by
  simp (config := { decide := true }) only [Machine_execute, Machine_execute_22, Machine_execute_45, Machine_execute_69, Machine_execute_90, Machine_execute_123, Machine_execute_150, Machine_execute_163, Machine_execute_181, Machine_execute_199, Machine_executeFlow, Machine_executeFlow_269, Machine_executeFlow_287, if_true, if_false, nu_eq, bnd_iff]
theorem ex_djnz {c r : vmD} (h : Rel c r) (ht : tgt c r) (h59 : gF r 42 59 = 0) (h61 : gF r 42 61 = nI (64 * 0 + 8 * 2 + 0)) (x : Int32) : ExOk 34 38 0 x c r := by
  have h1 := h.oct0 (oct_and (gA r 65 0 - 1))
  have e0 : gA (sA r 65 0 ((gA r 65 0 - 1) &&& 255)) 65 0 = (gA r 65 0 - 1) &&& 255 := by rw [gA_sA, u1f_eq]
  by_cases hb : (gA r 65 0 - 1) &&& 255 = 0
  · refine ⟨_, _, fun Q hQ => ?_, fun Q hQ => ?_, h1⟩
    · rw [exe34, h.ld0, sv0_eq, h1.ld0, e0, if_pos hb]
      exact hQ
    · rw [doFirst_eq (by omega) (by omega) h61 h59]
      unfold MO_doFirst_26
      rw [h61, opz (by omega) (by omega) (by omega), if_pos (by decide)]
      unfold MO_doNear MO_doNear_62
      rw [if_neg (by decide), if_neg (by decide), if_pos (by decide)]
      simp only [bnd_iff, e0, hb, if_true]
      rw [near79_eq, if_pos rfl]
      rw [hb] at hQ
      exact hQ
  · refine ⟨_, _, fun Q hQ => ?_, fun Q hQ => ?_, h1.jr (by
      refine ⟨?_, ht.2⟩
      rw [cO_g]
      exact ht.1)⟩
    · rw [exe34, h.ld0, sv0_eq, h1.ld0, e0, if_neg hb]
      exact hQ
    · rw [doFirst_eq (by omega) (by omega) h61 h59]
      unfold MO_doFirst_26
      rw [h61, opz (by omega) (by omega) (by omega), if_pos (by decide)]
      unfold MO_doNear MO_doNear_62
      rw [if_neg (by decide), if_neg (by decide), if_pos (by decide)]
      simp only [bnd_iff, e0, hb, if_false]
      rw [near79_eq, if_neg (by decide)]
      exact hQ
theorem ex_nop {c r : vmD} (h : Rel c r) (h59 : gF r 42 59 = 0) (h61 : gF r 42 61 = nI (64 * 0 + 8 * 0 + 0)) (x : Int32) : ExOk 32 0 0 x c r := by
  refine ⟨c, r, fun Q hQ => ?_, fun Q hQ => ?_, h⟩
  · simp (config := { decide := true }) only [Machine_execute, Machine_execute_22, Machine_execute_45, Machine_execute_69, Machine_execute_90, Machine_execute_123, Machine_execute_150, Machine_execute_163, Machine_execute_181, Machine_execute_199, Machine_executeFlow, Machine_executeFlow_269, Machine_executeFlow_287, if_true, if_false, Machine_executeRest, h.ld7, h.fl_eq]
    exact hQ
  · rw [doFirst_eq (by omega) (by omega) h61 h59]
    unfold MO_doFirst_26
    rw [h61, opz (by omega) (by omega) (by omega), if_pos (by decide)]
    unfold MO_doNear
    rw [if_pos (by decide)]
    exact hQ
theorem ex_jp {c r : vmD} (h : Rel c r) (hn : gF c 19 9 = rw2 r (gF r 42 64)) (h59 : gF r 42 59 = 0) (h61 : gF r 42 61 = nI (64 * 3 + 8 * 0 + 3)) (x : Int32) : ExOk 59 37 0 x c r := by
  refine ⟨_, _, fun Q hQ => ?_, fun Q hQ => ?_, h.sg11 (rw_wrd h.2.1 (gF r 42 64))⟩
  · rw [exe59]
    unfold Machine_jump
    simp (config := { decide := true }) only [Machine_isCondition, Machine_isCondition_12, if_true, if_false]
    rw [j16_jp (Or.inl rfl) (by decide) (by decide) (by decide), hn]
    exact hQ
  · rw [doLast_eq (by omega) (by omega) h61 h59]
    unfold MO_doLast_26
    rw [h61, opz (by omega) (by omega) (by omega), if_neg (by decide), if_neg (by decide), if_neg (by decide), if_pos (by decide)]
    unfold MO_doThird
    rw [if_pos (by decide), wide_eq]
    simp only [bnd_iff]
    exact hQ
theorem ex_call {c r : vmD} (h : Rel c r) (hn : gF c 19 9 = rw2 r (gF r 42 64)) (h59 : gF r 42 59 = 0) (h61 : gF r 42 61 = nI (64 * 3 + 8 * 1 + 5)) (x : Int32) : ExOk 64 37 0 x c r := by
  refine ⟨_, _, fun Q hQ => ?_, fun Q hQ => ?_, h.call hn (rw_wrd h.2.1 (gF r 42 64))⟩
  · rw [exe64]
    unfold Machine_jump
    simp (config := { decide := true }) only [Machine_isCondition, Machine_isCondition_12, if_true, if_false, j16_call]
    exact hQ
  · rw [doLast_eq (by omega) (by omega) h61 h59]
    unfold MO_doLast_26
    rw [h61, opz (by omega) (by omega) (by omega), if_neg (by decide), if_neg (by decide), if_neg (by decide), if_neg (by decide), if_neg (by decide), if_pos (by decide), if_neg (by decide), wide_eq, pushTwo_eq]
    simp only [bnd_iff]
    exact hQ
theorem ex_ret {c r : vmD} (h : Rel c r) (h59 : gF r 42 59 = 0) (h61 : gF r 42 61 = nI (64 * 3 + 8 * 1 + 1)) (x : Int32) : ExOk 56 0 0 x c r := by
  refine ⟨_, _, fun Q hQ => ?_, fun Q hQ => ?_, h.ret⟩
  · rw [exe56]
    unfold Machine_jump
    simp (config := { decide := true }) only [Machine_isCondition, Machine_isCondition_12, if_true, if_false, j16_ret]
    exact hQ
  · rw [doLast_eq (by omega) (by omega) h61 h59]
    unfold MO_doLast_26
    rw [h61, opz (by omega) (by omega) (by omega), if_neg (by decide), if_pos (by decide)]
    unfold MO_doReturns
    rw [if_neg (by decide), if_pos (by decide), popTwo_eq]
    simp only [bnd_iff]
    exact hQ
def jK (ix : Nat) : Int32 := if ix = 0 then 7 else if ix = 1 then 30 else 31
theorem ex_jphl {c r : vmD} (h : Rel c r) {ix : Nat} (hix : ix < 3) (h60 : gF r 42 60 = nI ix) (h59 : gF r 42 59 = 0) (h61 : gF r 42 61 = nI (64 * 3 + 8 * 5 + 1)) (x : Int32) : ExOk 59 (jK ix) 0 x c r := by
  refine ⟨_, _, fun Q hQ => ?_, fun Q hQ => ?_, h.sg11 (h.wP (ix := ix) (p := 2) hix (by omega))⟩
  · rw [exe59]
    unfold Machine_jump jK
    rcases (show ix = 0 ∨ ix = 1 ∨ ix = 2 by omega) with rfl | rfl | rfl
    · simp (config := { decide := true }) only [Machine_isCondition, Machine_isCondition_12, Machine_jump_16, Machine_jump_111, nu_eq, bnd_iff, if_true, if_false]
      exact hQ
    · simp (config := { decide := true }) only [Machine_isCondition, Machine_isCondition_12, Machine_jump_16, Machine_jump_111, nu_eq, bnd_iff, if_true, if_false]
      exact hQ
    · simp (config := { decide := true }) only [Machine_isCondition, Machine_isCondition_12, Machine_jump_16, Machine_jump_111, nu_eq, bnd_iff, if_true, if_false]
      exact hQ
  · rw [doLast_eq (by omega) (by omega) h61 h59]
    unfold MO_doLast_26
    rw [h61, opz (by omega) (by omega) (by omega), if_neg (by decide), if_pos (by decide)]
    unfold MO_doReturns
    rw [if_neg (by decide), if_neg (by decide), if_neg (by decide), if_pos (by decide), base_eq h hix h60]
    simp only [bnd_iff]
    exact hQ
theorem ex_ldsp {c r : vmD} (h : Rel c r) {ix : Nat} (hix : ix < 3) (h60 : gF r 42 60 = nI ix) (h59 : gF r 42 59 = 0) (h61 : gF r 42 61 = nI (64 * 3 + 8 * 7 + 1)) (x : Int32) : ExOk 36 12 (kP ix 2) x c r := by
  refine ⟨_, _, fun Q hQ => ?_, fun Q hQ => ?_, h.sg10 (h.wP (ix := ix) (p := 2) hix (by omega))⟩
  · rw [exe36]
    unfold Machine_transfer Machine_transfer_14
    rw [po12_eq, if_neg (by decide), pair_eq hix (by omega), sp12_eq, (h.wP (ix := ix) (p := 2) hix (by omega)).and]
    exact hQ
  · rw [doLast_eq (by omega) (by omega) h61 h59]
    unfold MO_doLast_26
    rw [h61, opz (by omega) (by omega) (by omega), if_neg (by decide), if_pos (by decide)]
    unfold MO_doReturns
    rw [if_neg (by decide), if_neg (by decide), if_neg (by decide), if_neg (by decide), base_eq h hix h60]
    simp only [bnd_iff]
    exact hQ
def qK (ix p : Nat) : Int32 := if p = 3 then 13 else kP ix p
theorem ex_pop {c r : vmD} (h : Rel c r) {ix p : Nat} (hix : ix < 3) (hp : p < 4) (h60 : gF r 42 60 = nI ix) (h59 : gF r 42 59 = 0) (h61 : gF r 42 61 = nI (64 * 3 + 8 * (2 * p) + 1)) (x : Int32) : ExOk 57 (qK ix p) 0 x c r := by
  have h1 := h.pop.1
  have hw := rw_wrd h.2.1 (gF r 42 75)
  by_cases e : p = 3
  · subst e
    refine ⟨_, _, fun Q hQ => ?_, fun Q hQ => ?_, h1.sg0 hw⟩
    · rw [exe57, pop_eq, h.pop.2]
      show Machine_savePair 13 _ _ Q
      rw [sp13_eq, hw.and]
      exact hQ
    · rw [doLast_eq (by omega) (by omega) h61 h59]
      unfold MO_doLast_26
      rw [h61, opz (by omega) (by omega) (by omega), if_neg (by decide), if_pos (by decide)]
      unfold MO_doReturns
      rw [if_pos (by decide), popTwo_eq, if_pos (by decide)]
      simp only [bnd_iff]
      rw [(w_split hw).2.and] at hQ
      exact hQ
  · refine ⟨_, _, fun Q hQ => ?_, fun Q hQ => ?_, h1.sP (ix := ix) hix hp (rw2 r (gF r 42 75))⟩
    · rw [exe57, pop_eq, h.pop.2]
      unfold qK
      rw [if_neg e, savePair_eq hix hp]
      exact hQ
    · rw [doLast_eq (by omega) (by omega) h61 h59]
      unfold MO_doLast_26
      rw [h61, opz (by omega) (by omega) (by omega), if_neg (by decide), if_pos (by decide), show (2 * p) / 2 = p by omega, show (2 * p) % 2 = 0 by omega]
      unfold MO_doReturns
      have e3 : ¬ nI p = 3 := fun q => e ((nI_eq (b := 3) (by omega) (by omega)).mp q)
      rw [if_pos (by decide), popTwo_eq, if_neg e3, setPair_eq hix hp (by simp only [gA_sA, gA_sA_ne, gA_sF, gA_sG, gA_sL, gF_sA, gF_sF, gF_sF_ne, gF_sG, gF_sL, gG_sA, gG_sF, gG_sL, gG_sGe, gG_sG_ne, gL_sA, gL_sF, gL_sG, gL_sLe, gL_sL_ne, u1f_eq, u1f_ne, bnd_iff, not_false_eq_true, Nat.reduceEqDiff]; exact h60)]
      exact hQ
theorem ex_push {c r : vmD} (h : Rel c r) {ix p : Nat} (hix : ix < 3) (hp : p < 4) (h60 : gF r 42 60 = nI ix) (h59 : gF r 42 59 = 0) (h61 : gF r 42 61 = nI (64 * 3 + 8 * (2 * p) + 5)) (x : Int32) : ExOk 65 (qK ix p) 0 x c r := by
  by_cases e : p = 3
  · subst e
    refine ⟨_, _, fun Q hQ => ?_, fun Q hQ => ?_, h.push (gA c 39 0)⟩
    · rw [exe65]
      show Machine_pair 13 c _
      rw [pr13_eq, push_eq]
      exact hQ
    · rw [doLast_eq (by omega) (by omega) h61 h59]
      unfold MO_doLast_26 MO_doLast_220
      rw [h61, opz (by omega) (by omega) (by omega), if_neg (by decide), if_neg (by decide), if_neg (by decide), if_neg (by decide), if_neg (by decide), if_pos (by decide), if_pos (by decide), if_pos (by decide)]
      refine MO_at_ok h.2.2.2.2.2.2.1 (x := 0) (by decide) (by decide) _ ?_
      rw [pushTwo_eq]
      exact hQ
  · refine ⟨_, _, fun Q hQ => ?_, fun Q hQ => ?_, h.push (gA c 39 (iP ix p))⟩
    · rw [exe65]
      unfold qK
      rw [if_neg e, pair_eq hix hp, push_eq]
      exact hQ
    · rw [doLast_eq (by omega) (by omega) h61 h59]
      unfold MO_doLast_26 MO_doLast_220
      have e3 : ¬ nI p = 3 := fun q => e ((nI_eq (b := 3) (by omega) (by omega)).mp q)
      rw [h61, opz (by omega) (by omega) (by omega), if_neg (by decide), if_neg (by decide), if_neg (by decide), if_neg (by decide), if_neg (by decide), if_pos (by decide), show (2 * p) / 2 = p by omega, show (2 * p) % 2 = 0 by omega, if_pos (by decide), if_neg e3, pairAt_eq h hix hp h60, pushTwo_eq]
      exact hQ
theorem ex_di {c r : vmD} (h : Rel c r) (h59 : gF r 42 59 = 0) (h61 : gF r 42 61 = nI (64 * 3 + 8 * 6 + 3)) (x : Int32) : ∃ c2 r2, (∀ Q : vmD → Prop, Q c2 → Machine_execute 62 0 0 x c Q) ∧ (∀ Q : vmD → Prop, Q r2 → dispR x r Q) ∧ Rel c2 r2 := by
  refine ⟨_, _, fun Q hQ => ?_, fun Q hQ => ?_, (h.sg14 (Or.inl rfl)).sg15 (Or.inl rfl)⟩
  · simp (config := { decide := true }) only [Machine_execute, Machine_execute_22, Machine_execute_45, Machine_execute_69, Machine_execute_90, Machine_execute_123, Machine_execute_150, Machine_execute_163, Machine_execute_181, Machine_execute_199, Machine_executeFlow, Machine_executeFlow_269, Machine_executeFlow_287, if_true, if_false, bnd_iff, true_and]
    exact hQ
  · rw [doLast_eq (by omega) (by omega) h61 h59]
    unfold MO_doLast_26
    rw [h61, opz (by omega) (by omega) (by omega), if_neg (by decide), if_neg (by decide), if_neg (by decide), if_pos (by decide)]
    unfold MO_doThird
    rw [if_neg (by decide), if_neg (by decide), if_neg (by decide), if_neg (by decide), if_neg (by decide), if_pos (by decide)]
    simp only [bnd_iff]
    exact hQ
theorem ex_ei {c r : vmD} (h : Rel c r) (h59 : gF r 42 59 = 0) (h61 : gF r 42 61 = nI (64 * 3 + 8 * 7 + 3)) (x : Int32) : ∃ c2 r2, (∀ Q : vmD → Prop, Q c2 → Machine_execute 63 0 0 x (sF c 38 9 1) Q) ∧ (∀ Q : vmD → Prop, Q r2 → dispR x r Q) ∧ Rel c2 r2 := by
  refine ⟨_, _, fun Q hQ => ?_, fun Q hQ => ?_, ((h.sg14 (Or.inr rfl)).sg15 (Or.inr rfl)).je (Or.inr rfl)⟩
  · simp (config := { decide := true }) only [Machine_execute, Machine_execute_22, Machine_execute_45, Machine_execute_69, Machine_execute_90, Machine_execute_123, Machine_execute_150, Machine_execute_163, Machine_execute_181, Machine_execute_199, Machine_executeFlow, Machine_executeFlow_269, Machine_executeFlow_287, if_true, if_false, bnd_iff, true_and]
    exact hQ
  · rw [doLast_eq (by omega) (by omega) h61 h59]
    unfold MO_doLast_26
    rw [h61, opz (by omega) (by omega) (by omega), if_neg (by decide), if_neg (by decide), if_neg (by decide), if_pos (by decide)]
    unfold MO_doThird
    rw [if_neg (by decide), if_neg (by decide), if_neg (by decide), if_neg (by decide), if_neg (by decide), if_neg (by decide)]
    simp only [bnd_iff]
    exact hQ
