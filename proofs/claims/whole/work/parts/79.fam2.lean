/-! Families: pairs, stack, jumps, exchanges -/
theorem exe33 (f e x : Int32) (c : vmD) (Q : vmD → Prop) : Machine_execute 33 f e x c Q = Machine_exchange f e c Q := by
  simp (config := { decide := true }) only [Machine_execute, Machine_execute_22, Machine_execute_45, Machine_execute_69, Machine_execute_90, Machine_execute_123, Machine_execute_150, Machine_execute_163, Machine_execute_181, Machine_execute_199, Machine_executeFlow, if_true, if_false]
theorem exe57 (f e x : Int32) (c : vmD) (Q : vmD → Prop) : Machine_execute 57 f e x c Q = Machine_pop c fun v d => Machine_savePair f v d Q := by
  simp (config := { decide := true }) only [Machine_execute, Machine_execute_22, Machine_execute_45, Machine_execute_69, Machine_execute_90, Machine_execute_123, Machine_execute_150, Machine_execute_163, Machine_execute_181, Machine_execute_199, Machine_executeFlow, if_true, if_false]
theorem exe61 (f e x : Int32) (c : vmD) (Q : vmD → Prop) : Machine_execute 61 f e x c Q = Machine_takeIn f e c Q := by
  simp (config := { decide := true }) only [Machine_execute, Machine_execute_22, Machine_execute_45, Machine_execute_69, Machine_execute_90, Machine_execute_123, Machine_execute_150, Machine_execute_163, Machine_execute_181, Machine_execute_199, Machine_executeFlow, if_true, if_false]
theorem exe65 (f e x : Int32) (c : vmD) (Q : vmD → Prop) : Machine_execute 65 f e x c Q = Machine_pair f c fun v d => Machine_push v d Q := by
  simp (config := { decide := true }) only [Machine_execute, Machine_execute_22, Machine_execute_45, Machine_execute_69, Machine_execute_90, Machine_execute_123, Machine_execute_150, Machine_execute_163, Machine_execute_181, Machine_execute_199, Machine_executeFlow, if_true, if_false]
theorem exe35 (f e x : Int32) (c : vmD) (Q : vmD → Prop) : Machine_execute 35 f e x c Q = Machine_jump 35 f c Q := by
  simp (config := { decide := true }) only [Machine_execute, Machine_execute_22, Machine_execute_45, Machine_execute_69, Machine_execute_90, Machine_execute_123, Machine_execute_150, Machine_execute_163, Machine_execute_181, Machine_execute_199, Machine_executeFlow, if_true, if_false]
theorem exe56 (f e x : Int32) (c : vmD) (Q : vmD → Prop) : Machine_execute 56 f e x c Q = Machine_jump 56 f c Q := by
  simp (config := { decide := true }) only [Machine_execute, Machine_execute_22, Machine_execute_45, Machine_execute_69, Machine_execute_90, Machine_execute_123, Machine_execute_150, Machine_execute_163, Machine_execute_181, Machine_execute_199, Machine_executeFlow, if_true, if_false]
theorem exe59 (f e x : Int32) (c : vmD) (Q : vmD → Prop) : Machine_execute 59 f e x c Q = Machine_jump 59 f c Q := by
  simp (config := { decide := true }) only [Machine_execute, Machine_execute_22, Machine_execute_45, Machine_execute_69, Machine_execute_90, Machine_execute_123, Machine_execute_150, Machine_execute_163, Machine_execute_181, Machine_execute_199, Machine_executeFlow, if_true, if_false]
theorem exe64 (f e x : Int32) (c : vmD) (Q : vmD → Prop) : Machine_execute 64 f e x c Q = Machine_jump 64 f c Q := by
  simp (config := { decide := true }) only [Machine_execute, Machine_execute_22, Machine_execute_45, Machine_execute_69, Machine_execute_90, Machine_execute_123, Machine_execute_150, Machine_execute_163, Machine_execute_181, Machine_execute_199, Machine_executeFlow, if_true, if_false]
theorem exe66 (f e x : Int32) (c : vmD) (Q : vmD → Prop) : Machine_execute 66 f e x c Q = Machine_jump 66 f c Q := by
  simp (config := { decide := true }) only [Machine_execute, Machine_execute_22, Machine_execute_45, Machine_execute_69, Machine_execute_90, Machine_execute_123, Machine_execute_150, Machine_execute_163, Machine_execute_181, Machine_execute_199, Machine_executeFlow, if_true, if_false]
def cK (y : Nat) : Int32 := if y = 3 then 2 else if y < 3 then nI (19 + y) else nI (18 + y)
def hM (y : Nat) : Int32 := if y < 2 then 64 else if y < 4 then 1 else if y < 6 then 4 else 128
def hV (y : Nat) (f : Int32) : Int32 := if (f &&& hM y) = 0 then (if y % 2 = 0 then 1 else 0) else (if y % 2 = 0 then 0 else 1)
theorem holds_eq {c r : vmD} (h : Rel c r) {y : Nat} (hy : y < 8) (Q : Int32 → vmD → Prop) : Machine_holds (cK y) c Q = Q (hV y (gA r 65 6)) c := by
  unfold Machine_holds
  rw [h.fl_eq]
  unfold hV hM cK
  rcases (show y = 0 ∨ y = 1 ∨ y = 2 ∨ y = 3 ∨ y = 4 ∨ y = 5 ∨ y = 6 ∨ y = 7 by omega) with rfl | rfl | rfl | rfl | rfl | rfl | rfl | rfl <;> simp (config := { decide := true }) only [if_true, if_false] <;> split <;> rfl
theorem rholds_eq {r : vmD} {y : Nat} (hy : y < 8) (Q : Int32 → vmD → Prop) : MO_holds (nI y) r Q = Q (hV y (gA r 65 6)) r := by
  unfold MO_holds MO_holds_32 MO_holds_50 MO_holds_62 hV hM
  simp only [bnd_iff]
  rcases (show y = 0 ∨ y = 1 ∨ y = 2 ∨ y = 3 ∨ y = 4 ∨ y = 5 ∨ y = 6 ∨ y = 7 by omega) with rfl | rfl | rfl | rfl | rfl | rfl | rfl | rfl <;> simp (config := { decide := true }) only [if_true, if_false] <;> split <;> rfl
theorem isC_1 {y : Nat} (hy : y < 8) (c : vmD) (Q : Int32 → vmD → Prop) : Machine_isCondition (cK y) c Q = Q 1 c := by
  unfold Machine_isCondition Machine_isCondition_12 cK
  rcases (show y = 0 ∨ y = 1 ∨ y = 2 ∨ y = 3 ∨ y = 4 ∨ y = 5 ∨ y = 6 ∨ y = 7 by omega) with rfl | rfl | rfl | rfl | rfl | rfl | rfl | rfl <;> simp (config := { decide := true }) only [if_true, if_false]
theorem hV_b (y : Nat) (f : Int32) : hV y f = 0 ∨ hV y f = 1 := by
  unfold hV
  split <;> split <;> first | exact Or.inl rfl | exact Or.inr rfl
/-- jumps with a condition -/
theorem jump_c {c r : vmD} (h : Rel c r) {w : Int32} {y : Nat} (hy : y < 8) (Q : vmD → Prop) : Machine_jump w (cK y) c Q = if hV y (gA r 65 6) = 0 then Q c else Machine_jump_16 w (cK y) c Q := by
  unfold Machine_jump
  rw [isC_1 hy, if_neg (by decide), holds_eq h hy]
theorem j16_ne {y : Nat} (hy : y < 8) : ¬ cK y = 7 ∧ ¬ cK y = 30 ∧ ¬ cK y = 31 := by
  unfold cK
  rcases (show y = 0 ∨ y = 1 ∨ y = 2 ∨ y = 3 ∨ y = 4 ∨ y = 5 ∨ y = 6 ∨ y = 7 by omega) with rfl | rfl | rfl | rfl | rfl | rfl | rfl | rfl <;> decide
theorem j16_ret (f : Int32) (c : vmD) (Q : vmD → Prop) : Machine_jump_16 56 f c Q = Q (sA (sA c 39 10 ((gA c 39 10 + 2) &&& 65535)) 39 11 (mw c (gA c 39 10))) := by
  simp (config := { decide := true }) only [Machine_jump_16, Machine_jump_111, nu_eq, pop_eq, bnd_iff, if_true, if_false]
theorem j16_call (f : Int32) (c : vmD) (Q : vmD → Prop) : Machine_jump_16 64 f c Q = Q (sA (cPush (gA c 39 11) c) 39 11 (gF c 19 9)) := by
  simp (config := { decide := true }) only [Machine_jump_16, Machine_jump_50, Machine_jump_111, nu_eq, push_eq, bnd_iff, if_true, if_false]
theorem j16_rst (f : Int32) (c : vmD) (Q : vmD → Prop) : Machine_jump_16 66 f c Q = Q (sA (cPush (gA c 39 11) c) 39 11 (gF c 19 9)) := by
  simp (config := { decide := true }) only [Machine_jump_16, Machine_jump_50, Machine_jump_111, nu_eq, push_eq, bnd_iff, if_true, if_false]
theorem j16_jp {w f : Int32} (hw : w = 59 ∨ w = 35) (h1 : ¬ f = 7) (h2 : ¬ f = 30) (h3 : ¬ f = 31) (c : vmD) (Q : vmD → Prop) : Machine_jump_16 w f c Q = Q (sA c 39 11 (gF c 19 9)) := by
  rcases hw with rfl | rfl
  · simp (config := { decide := true }) only [Machine_jump_16, Machine_jump_111, nu_eq, bnd_iff, if_true, if_false, h1, h2, h3]
  · simp (config := { decide := true }) only [Machine_jump_16, Machine_jump_111, nu_eq, bnd_iff, if_true, if_false, h1, h2, h3]
theorem wrd_of_mw {c r : vmD} (h : Rel c r) (x : Int32) : wrd (mw c x) := by
  rw [mw_rw h.2.1]
  exact rw_wrd h.2.1 x
theorem Rel.ret {c r : vmD} (h : Rel c r) : Rel (sA (sA c 39 10 ((gA c 39 10 + 2) &&& 65535)) 39 11 (mw c (gA c 39 10))) (sF (sF r 42 75 ((gF r 42 75 + 2) &&& 65535)) 42 76 (rw2 r (gF r 42 75))) := by
  rw [h.pop.2]
  exact h.pop.1.sg11 (rw_wrd h.2.1 _)
theorem Rel.call {c r : vmD} (h : Rel c r) {v w : Int32} (hv : w = v) (hw : wrd v) : Rel (sA (cPush (gA c 39 11) c) 39 11 w) (sF (rPush (gF r 42 76) r) 42 76 v) := by
  rw [h.gt11.1, hv]
  exact (h.push _).sg11 hw
/-- RET cc -/
theorem ex_retc {c r : vmD} (h : Rel c r) {y : Nat} (hy : y < 8) (h59 : gF r 42 59 = 0) (h61 : gF r 42 61 = nI (64 * 3 + 8 * y + 0)) (x : Int32) : ExOk 56 (cK y) 0 x c r := by
  by_cases hb : hV y (gA r 65 6) = 0
  · refine ⟨c, r, fun Q hQ => ?_, fun Q hQ => ?_, h⟩
    · rw [exe56, jump_c h hy, if_pos hb]; exact hQ
    · rw [doLast_eq hy (by omega) h61 h59]
      unfold MO_doLast_26
      rw [h61, opz (by omega) hy (by omega), if_pos (by decide), rholds_eq hy, if_pos hb]
      exact hQ
  · refine ⟨_, _, fun Q hQ => ?_, fun Q hQ => ?_, h.ret⟩
    · rw [exe56, jump_c h hy, if_neg hb, j16_ret]; exact hQ
    · rw [doLast_eq hy (by omega) h61 h59]
      unfold MO_doLast_26
      rw [h61, opz (by omega) hy (by omega), if_pos (by decide), rholds_eq hy, if_neg hb, popTwo_eq]
      simp only [bnd_iff]
      exact hQ
/-- JP cc, nn -/
theorem ex_jpc {c r : vmD} (h : Rel c r) {y : Nat} (hy : y < 8) (hn : gF c 19 9 = rw2 r (gF r 42 64)) (h59 : gF r 42 59 = 0) (h61 : gF r 42 61 = nI (64 * 3 + 8 * y + 2)) (x : Int32) : ExOk 59 (cK y) 37 x c r := by
  by_cases hb : hV y (gA r 65 6) = 0
  · refine ⟨c, r, fun Q hQ => ?_, fun Q hQ => ?_, h⟩
    · rw [exe59, jump_c h hy, if_pos hb]; exact hQ
    · rw [doLast_eq hy (by omega) h61 h59]
      unfold MO_doLast_26
      rw [h61, opz (by omega) hy (by omega), if_neg (by decide), if_neg (by decide), if_pos (by decide), rholds_eq hy, if_pos hb]
      exact hQ
  · refine ⟨_, _, fun Q hQ => ?_, fun Q hQ => ?_, h.sg11 (rw_wrd h.2.1 (gF r 42 64))⟩
    · rw [exe59, jump_c h hy, if_neg hb, j16_jp (Or.inl rfl) (j16_ne hy).1 (j16_ne hy).2.1 (j16_ne hy).2.2, hn]; exact hQ
    · rw [doLast_eq hy (by omega) h61 h59]
      unfold MO_doLast_26
      rw [h61, opz (by omega) hy (by omega), if_neg (by decide), if_neg (by decide), if_pos (by decide), rholds_eq hy, if_neg hb, wide_eq]
      simp only [bnd_iff]
      exact hQ
/-- CALL cc, nn -/
theorem ex_callc {c r : vmD} (h : Rel c r) {y : Nat} (hy : y < 8) (hn : gF c 19 9 = rw2 r (gF r 42 64)) (h59 : gF r 42 59 = 0) (h61 : gF r 42 61 = nI (64 * 3 + 8 * y + 4)) (x : Int32) : ExOk 64 (cK y) 37 x c r := by
  by_cases hb : hV y (gA r 65 6) = 0
  · refine ⟨c, r, fun Q hQ => ?_, fun Q hQ => ?_, h⟩
    · rw [exe64, jump_c h hy, if_pos hb]; exact hQ
    · rw [doLast_eq hy (by omega) h61 h59]
      unfold MO_doLast_26
      rw [h61, opz (by omega) hy (by omega), if_neg (by decide), if_neg (by decide), if_neg (by decide), if_neg (by decide), if_pos (by decide), rholds_eq hy, if_pos hb]
      exact hQ
  · refine ⟨_, _, fun Q hQ => ?_, fun Q hQ => ?_, h.call hn (rw_wrd h.2.1 (gF r 42 64))⟩
    · rw [exe64, jump_c h hy, if_neg hb, j16_call]; exact hQ
    · rw [doLast_eq hy (by omega) h61 h59]
      unfold MO_doLast_26
      rw [h61, opz (by omega) hy (by omega), if_neg (by decide), if_neg (by decide), if_neg (by decide), if_neg (by decide), if_pos (by decide), rholds_eq hy, if_neg hb, wide_eq, pushTwo_eq]
      simp only [bnd_iff]
      exact hQ
/-- RST -/
theorem ex_rst {c r : vmD} (h : Rel c r) {y : Nat} (hy : y < 8) (hn : gF c 19 9 = nI (8 * y)) (h59 : gF r 42 59 = 0) (h61 : gF r 42 61 = nI (64 * 3 + 8 * y + 7)) (x : Int32) : ExOk 66 40 0 x c r := by
  refine ⟨_, _, fun Q hQ => ?_, fun Q hQ => ?_, h.call hn ⟨8 * y, by omega, rfl⟩⟩
  · rw [exe66]
    unfold Machine_jump
    simp (config := { decide := true }) only [Machine_isCondition, Machine_isCondition_12, if_true, if_false, j16_rst]
    exact hQ
  · rw [doLast_eq hy (by omega) h61 h59]
    unfold MO_doLast_26
    rw [h61, opz (by omega) hy (by omega), if_neg (by decide), if_neg (by decide), if_neg (by decide), if_neg (by decide), if_neg (by decide), if_neg (by decide), if_neg (by decide), pushTwo_eq]
    simp only [bnd_iff]
    have e : (8 : Int32) * nI y = nI (8 * y) := by
      show nI 8 * nI y = _
      unfold nI
      rw [Int32.ofNat_mul]
    rw [e]
    exact hQ
/-- INC, DEC of pairs -/
theorem ex_pair {c r : vmD} (h : Rel c r) {ix p q : Nat} (hix : ix < 3) (hp : p < 4) (hq : q < 2) (h59 : gF r 42 59 = 0) (h60 : gF r 42 60 = nI ix) (h61 : gF r 42 61 = nI (64 * 0 + 8 * (2 * p + q) + 3)) (x : Int32) : ExOk (nI (37 + q)) (kP ix p) 0 x c r := by
  have hs := h.sP hix hp (gA c 39 (iP ix p) + (if q = 0 then 1 else -1))
  refine ⟨_, _, fun Q hQ => ?_, fun Q hQ => ?_, hs⟩
  · rcases (show q = 0 ∨ q = 1 by omega) with rfl | rfl
    · show Machine_execute 37 (kP ix p) 0 x c Q
      rw [exe37]
      unfold Machine_change
      rw [po_kP hix hp, if_neg (nI_pos (by have := iP_b (ix := ix) hp; omega)), pair_eq hix hp, savePair_eq hix hp]
      exact hQ
    · show Machine_execute 38 (kP ix p) 0 x c Q
      rw [exe38]
      unfold Machine_change
      rw [po_kP hix hp, if_neg (nI_pos (by have := iP_b (ix := ix) hp; omega)), pair_eq hix hp, savePair_eq hix hp]
      exact hQ
  · rw [doFirst_eq (by omega) (by omega) h61 h59]
    unfold MO_doFirst_26
    rw [h61, opz (by omega) (by omega) (by omega), if_neg (by decide), if_neg (by decide), if_neg (by decide), if_pos (by decide), show (2 * p + q) / 2 = p by omega, show (2 * p + q) % 2 = q by omega, pairAt_eq h hix hp h60]
    unfold MO_doFirst_140
    have hw : ∀ v : Int32, rP ix p (v &&& 65535) r = rP ix p v r := by
      intro v
      unfold rP
      rw [hi_w, lo_w, and2]
    rcases (show q = 0 ∨ q = 1 by omega) with rfl | rfl
    · rw [if_pos (by decide), setPair_eq hix hp h60, hw]
      exact hQ
    · rw [if_neg (by decide), setPair_eq hix hp h60, hw]
      exact hQ
/-- LD pair, nn -/
theorem ex_ldp {c r : vmD} (h : Rel c r) {ix p : Nat} (hix : ix < 3) (hp : p < 4) (hn : gF c 19 9 = rw2 r (gF r 42 64)) (h59 : gF r 42 59 = 0) (h60 : gF r 42 60 = nI ix) (h61 : gF r 42 61 = nI (64 * 0 + 8 * (2 * p) + 1)) (x : Int32) : ExOk 36 (kP ix p) 37 x c r := by
  have hs := h.sP hix hp (rw2 r (gF r 42 64))
  refine ⟨_, _, fun Q hQ => ?_, fun Q hQ => ?_, hs⟩
  · rw [exe36]
    unfold Machine_transfer Machine_transfer_14
    rw [po_kP hix hp, if_neg (nI_pos (by have := iP_b (ix := ix) hp; omega)), pr37_eq, hn, savePair_eq hix hp]
    exact hQ
  · rw [doFirst_eq (by omega) (by omega) h61 h59]
    unfold MO_doFirst_26
    rw [h61, opz (by omega) (by omega) (by omega), if_neg (by decide), if_pos (by decide), show (2 * p) / 2 = p by omega, show (2 * p) % 2 = 0 by omega, if_pos (by decide), wide_eq, setPair_eq hix hp h60]
    exact hQ
