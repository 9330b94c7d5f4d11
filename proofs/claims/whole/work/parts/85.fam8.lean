/-! Families: behind 237 -/
theorem d237_eq {r : vmD} {x y z : Nat} (hx : x < 4) (hy : y < 8) (hz : z < 8) (h59 : gF r 42 59 = 2) (h61 : gF r 42 61 = nI (64 * x + 8 * y + z)) (x1 : Int32) (Q : vmD → Prop) : dispR x1 r Q = MO_do237_26 x1 (nI y) (nI (y / 2)) (nI (y % 2)) r Q := by
  unfold dispR
  rw [h59, if_neg (by decide), if_pos rfl]
  unfold MO_do237
  rw [h61, opy hx hy hz]
  simp only [bnd_iff]
  have e1 : nI y >>> ((1 : Int32) &&& 31) = nI (y / 2) := pk_shrN (by omega) _ 1 (by decide)
  have e2 : nI y &&& 1 = nI (y % 2) := pk_andN (by omega) (m := 1) 1 rfl
  rw [e1, e2]
  rcases (show y % 2 = 0 ∨ y % 2 = 1 by omega) with e | e <;> rw [e]
  · rw [if_neg (by decide)]
    rfl
  · rw [if_pos (by decide)]
    rfl
theorem ex_inc_ {c r : vmD} (h : Rel c r) {y : Nat} (hy : y < 8) (h6 : ¬ y = 6) (h59 : gF r 42 59 = 2) (h60 : gF r 42 60 = nI 0) (h61 : gF r 42 61 = nI (64 * 1 + 8 * y + 0)) (x : Int32) : ExOk 61 (kO 0 y) 29 x c r := by
  obtain ⟨i1, i2, i3⟩ := inp_eq h (h.o65 (k := 1) (by omega))
  have e1 : gA c 39 1 &&& 255 = gA r 65 1 := h.rd1
  have hf := oct_or (oct_or (oct_andl (1 : Int32) (h.o65 (k := 6) (by omega))) (oct_sg (gA r 68 (gA r 65 1).toNatClampNeg))) (oct_pa (gA r 68 (gA r 65 1).toNatClampNeg))
  have h1 := h.SO (ix := 0) hy (gA r 68 (gA r 65 1).toNatClampNeg)
  have er : rSt 0 y (gA r 68 (gA r 65 1).toNatClampNeg) r = sA r 65 y (gA r 68 (gA r 65 1).toNatClampNeg) := by
    unfold rSt
    rw [if_neg h6, i2.and]
  have e6 : gA (sA r 65 y (gA r 68 (gA r 65 1).toNatClampNeg)) 65 6 = gA r 65 6 := by
    rw [gA_sA, u1f_ne _ _ (fun e => h6 e.symm)]
  have h2 := h1.oct6 hf
  refine ⟨_, _, fun Q hQ => ?_, fun Q hQ => ?_, h2⟩
  · rw [exe61]
    unfold Machine_takeIn
    rw [if_neg (by decide)]
    simp only [bnd_iff]
    rw [e1, tA i3, i1, h.sO (by omega) hy (Or.inl rfl), h1.fl_eq, er, e6, sg_eq, pa_eq i2, sfl_eq, hf.and]
    exact hQ
  · rw [d237_eq (y := y) (z := 0) (by omega) (by omega) (by omega) h59 h61]
    unfold MO_do237_26
    rw [h61, opx (by omega) (by omega) (by omega), if_neg (by decide), opz (by omega) (by omega) (by omega), if_pos (by decide)]
    simp only [bnd_iff]
    rw [tA i3, nI_clamp (by omega), tA (nI_in hy (by omega)), e6, rsg_eq, rpa_eq]
    rw [er] at hQ
    exact hQ
theorem ex_outc {c r : vmD} (h : Rel c r) {y : Nat} (hy : y < 8) (h6 : ¬ y = 6) (h59 : gF r 42 59 = 2) (h60 : gF r 42 60 = nI 0) (h61 : gF r 42 61 = nI (64 * 1 + 8 * y + 1)) (x : Int32) : ExOk 60 29 (kO 0 y) x c r := by
  have e1 : gA c 39 1 &&& 255 = gA r 65 1 := h.rd1
  have ho := h.o65 hy
  have hv : vO 0 y r = gA r 65 y := by
    unfold vO
    rw [if_neg h6]
  refine ⟨_, _, fun Q hQ => ?_, fun Q hQ => ?_, h.outp (gA r 65 1) ho⟩
  · rw [exe60, if_pos rfl, h.lO (by omega) hy (Or.inl rfl), hv, out_eq, e1]
    rw [(h.o65 (k := 1) (by omega)).and] at hQ
    exact hQ
  · rw [d237_eq (y := y) (z := 1) (by omega) (by omega) (by omega) h59 h61]
    unfold MO_do237_26
    rw [h61, opx (by omega) (by omega) (by omega), if_neg (by decide), opz (by omega) (by omega) (by omega), if_neg (by decide), if_pos (by decide)]
    simp only [bnd_iff]
    rw [nI_clamp (by omega), tA (nI_in hy (by omega)), rout_eq]
    exact hQ
def fW (a v r : Int32) (b : Bool) : Int32 := ((((((r &&& 65535) >>> ((8 : Int32) &&& 31)) &&& 168) ||| (if (r &&& 65535) = 0 then 64 else 0)) ||| ((((a ^^^ v) ^^^ (r &&& 65535)) >>> ((8 : Int32) &&& 31)) &&& 16)) ||| ((((bif b then (a ^^^ v) else (a ^^^ (v ^^^ (-1)))) &&& (a ^^^ (r &&& 65535))) &&& 32768) >>> ((13 : Int32) &&& 31))) ||| (bif b then 2 else 0) ||| ((r >>> ((16 : Int32) &&& 31)) &&& 1)
theorem l_32768 (i : Nat) : bt 32768 i = decide (i = 15) := by
  rcases Nat.lt_or_ge i 32 with h | h
  · exact (by decide +kernel : ∀ i, i < 32 → bt 32768 i = decide (i = 15)) i h
  · rw [b_big h, decide_eq_false (by omega)]
set_option maxHeartbeats 4000000 in
theorem fW_id (a v r : Int32) (b : Bool) : ((((((((((a ^^^ v) ^^^ r) >>> ((8 : Int32) &&& 31)) &&& 16) ||| ((r >>> ((16 : Int32) &&& 31)) &&& 1)) ||| ((r >>> ((8 : Int32) &&& 31)) &&& 40)) ||| ((r >>> ((8 : Int32) &&& 31)) &&& 128)) ||| (if (r &&& 65535) = 0 then 64 else 0)) ||| ((((bif b then (a ^^^ v) else ((a ^^^ v) ^^^ (-1))) &&& (a ^^^ r)) &&& 32768) >>> ((13 : Int32) &&& 31))) ||| (bif b then 2 else 0)) &&& 255 = fW a v r b := by
  unfold fW
  apply b_ext
  intro i hi
  have hZ : (if (r &&& 65535) = 0 then (64 : Int32) else 0) = 64 ∨ (if (r &&& 65535) = 0 then (64 : Int32) else 0) = 0 := by
    split
    · exact Or.inl rfl
    · exact Or.inr rfl
  rcases hZ with e | e <;> rw [e] <;> cases b
  all_goals simp only [cond_true, cond_false, b_and, b_or, b_xor, b_255, b_0, b_65535, l_16, l_1, l_2, l_40, l_128, l_64, l_168, l_32768, b_sshr8 _ hi, b_r16 _ hi, b_r13 _ hi]
  all_goals rcases (show i = 0 ∨ i = 1 ∨ i = 2 ∨ i = 3 ∨ i = 4 ∨ i = 5 ∨ i = 6 ∨ i = 7 ∨ i = 8 ∨ i = 9 ∨ i = 10 ∨ i = 11 ∨ i = 12 ∨ i = 13 ∨ i = 14 ∨ i = 15 ∨ i = 16 ∨ i = 17 ∨ i = 18 ∨ i = 19 ∨ i = 20 ∨ i = 21 ∨ i = 22 ∨ i = 23 ∨ i = 24 ∨ i = 25 ∨ i = 26 ∨ i = 27 ∨ i = 28 ∨ i = 29 ∨ i = 30 ∨ i = 31 by omega) with rfl | rfl | rfl | rfl | rfl | rfl | rfl | rfl | rfl | rfl | rfl | rfl | rfl | rfl | rfl | rfl | rfl | rfl | rfl | rfl | rfl | rfl | rfl | rfl | rfl | rfl | rfl | rfl | rfl | rfl | rfl | rfl
  all_goals (try simp [b_m1])
  all_goals (try exact Bool.or_comm _ _)
theorem fW_o (a v r : Int32) (b : Bool) : oct (fW a v r b) := fW_id a v r b ▸ oct_and _
theorem wsum_eq {c r : vmD} (h : Rel c r) {p q : Nat} (hp : p < 4) (hq : q < 2) (h60 : gF r 42 60 = nI 0) (Q : vmD → Prop) : MO_wideSum (gA c 39 (iP 0 p)) (nI q) r Q = Q (rP 0 2 (if q = 0 then (gA c 39 3 - gA c 39 (iP 0 p)) - (gA r 65 6 &&& 1) else (gA c 39 3 + gA c 39 (iP 0 p)) + (gA r 65 6 &&& 1)) (sA r 65 6 (fW (gA c 39 3) (gA c 39 (iP 0 p)) (if q = 0 then (gA c 39 3 - gA c 39 (iP 0 p)) - (gA r 65 6 &&& 1) else (gA c 39 3 + gA c 39 (iP 0 p)) + (gA r 65 6 &&& 1)) (decide (q = 0))))) := by
  have t6 : ∀ (s : Int32) (d : vmD) (T : vmD → Prop), (ixOk (6 : Int32) 8 ∧ T (sA d 65 (Int32.toNatClampNeg 6) s)) = T (sA d 65 6 s) := fun s d T => tA (by decide)
  have hw : ∀ (v : Int32) (d : vmD), rP 0 2 (v &&& 65535) d = rP 0 2 v d := by
    intro v d
    unfold rP
    rw [hi_w, lo_w, and2]
  have hst : ∀ (v : Int32) (d : vmD) (T : vmD → Prop), MO_setTwo 4 v d T = T (rP 0 2 v d) := fun v d T => by
    rw [st4_eq]
    rfl
  unfold MO_wideSum
  rw [two4_eq, ← h.gt3.1]
  unfold MO_wideSum_36 MO_wideSum_78 MO_wideSum_106 MO_wideSum_135 fW
  simp only [bnd_iff, t6, hst]
  rcases (show q = 0 ∨ q = 1 by omega) with rfl | rfl
  · simp (config := { decide := true }) only [if_true, if_false, decide_true, cond_true, hw]
    by_cases e : (((gA c 39 3 - gA c 39 (iP 0 p)) - (gA r 65 6 &&& 1)) &&& 65535) = 0
    · simp only [if_pos e, true_and]
      rfl
    · simp only [if_neg e, true_and]
      rfl
  · simp (config := { decide := true }) only [if_true, if_false, decide_false, cond_false, hw]
    by_cases e : (((gA c 39 3 + gA c 39 (iP 0 p)) + (gA r 65 6 &&& 1)) &&& 65535) = 0
    · simp only [if_pos e, or_0, true_and]
      rfl
    · simp only [if_neg e, or_0, true_and]
      rfl
theorem ex_sbchl {c r : vmD} (h : Rel c r) {p : Nat} (hp : p < 4) (h59 : gF r 42 59 = 2) (h60 : gF r 42 60 = nI 0) (h61 : gF r 42 61 = nI (64 * 1 + 8 * (2 * p + 0) + 2)) (x : Int32) : ExOk 51 11 (kP 0 p) x c r := by
  have hs := (h.oct6 (fW_o (gA c 39 3) (gA c 39 (iP 0 p)) ((gA c 39 3 - gA c 39 (iP 0 p)) - (gA r 65 6 &&& 1)) true)).sP (ix := 0) (p := 2) (by omega) (by omega) ((gA c 39 3 - gA c 39 (iP 0 p)) - (gA r 65 6 &&& 1))
  have hid := fW_id (gA c 39 3) (gA c 39 (iP 0 p)) ((gA c 39 3 - gA c 39 (iP 0 p)) - (gA r 65 6 &&& 1)) true
  refine ⟨_, _, fun Q hQ => ?_, fun Q hQ => ?_, hs⟩
  · rw [exe51]
    unfold Machine_calculate Machine_calculate_12
    rw [h.fl_eq]
    unfold Machine_calculate_22
    rw [po11_eq, pair_eq (by omega) hp]
    unfold Machine_calculateWide
    rw [pr11_eq]
    unfold Machine_calculateWide_18 Machine_calculateWide_42 Machine_calculateWide_118 Machine_calculateWide_143 Machine_calculateWide_177 Machine_calculateWide_181
    simp only [bnd_iff, sfl_eq, sp11_eq]
    simp only [cond_true, cond_false] at hid
    by_cases e : (((gA c 39 3 - gA c 39 (iP 0 p)) - (gA r 65 6 &&& 1)) &&& 65535) = 0
    · rw [if_pos e] at hid
      simp (config := { decide := true }) only [e, if_true, if_false, hid]
      rw [e] at hQ
      exact hQ
    · rw [if_neg e] at hid
      simp (config := { decide := true }) only [e, if_true, if_false, hid]
      exact hQ
  · rw [d237_eq (y := (2 * p + 0)) (z := 2) (by omega) (by omega) (by omega) h59 h61]
    unfold MO_do237_26
    rw [h61, opx (by omega) (by omega) (by omega), if_neg (by decide), opz (by omega) (by omega) (by omega), if_neg (by decide), if_neg (by decide), if_pos (by decide)]
    rw [show (2 * p + 0) / 2 = p by omega, show (2 * p + 0) % 2 = 0 by omega, pairAt_eq h (by omega) hp h60, wsum_eq h hp (by omega) h60]
    exact hQ
theorem ex_adchl {c r : vmD} (h : Rel c r) {p : Nat} (hp : p < 4) (h59 : gF r 42 59 = 2) (h60 : gF r 42 60 = nI 0) (h61 : gF r 42 61 = nI (64 * 1 + 8 * (2 * p + 1) + 2)) (x : Int32) : ExOk 49 11 (kP 0 p) x c r := by
  have hs := (h.oct6 (fW_o (gA c 39 3) (gA c 39 (iP 0 p)) ((gA c 39 3 + gA c 39 (iP 0 p)) + (gA r 65 6 &&& 1)) false)).sP (ix := 0) (p := 2) (by omega) (by omega) ((gA c 39 3 + gA c 39 (iP 0 p)) + (gA r 65 6 &&& 1))
  have hid := fW_id (gA c 39 3) (gA c 39 (iP 0 p)) ((gA c 39 3 + gA c 39 (iP 0 p)) + (gA r 65 6 &&& 1)) false
  refine ⟨_, _, fun Q hQ => ?_, fun Q hQ => ?_, hs⟩
  · rw [exe49]
    unfold Machine_calculate Machine_calculate_12
    rw [h.fl_eq]
    unfold Machine_calculate_22
    rw [po11_eq, pair_eq (by omega) hp]
    unfold Machine_calculateWide
    rw [pr11_eq]
    unfold Machine_calculateWide_18 Machine_calculateWide_42 Machine_calculateWide_118 Machine_calculateWide_143 Machine_calculateWide_177 Machine_calculateWide_181
    simp only [bnd_iff, sfl_eq, sp11_eq]
    simp only [cond_true, cond_false] at hid
    by_cases e : (((gA c 39 3 + gA c 39 (iP 0 p)) + (gA r 65 6 &&& 1)) &&& 65535) = 0
    · rw [if_pos e] at hid
      simp (config := { decide := true }) only [e, if_true, if_false, hid]
      rw [e] at hQ
      exact hQ
    · rw [if_neg e] at hid
      simp (config := { decide := true }) only [e, if_true, if_false, hid]
      exact hQ
  · rw [d237_eq (y := (2 * p + 1)) (z := 2) (by omega) (by omega) (by omega) h59 h61]
    unfold MO_do237_26
    rw [h61, opx (by omega) (by omega) (by omega), if_neg (by decide), opz (by omega) (by omega) (by omega), if_neg (by decide), if_neg (by decide), if_pos (by decide)]
    rw [show (2 * p + 1) / 2 = p by omega, show (2 * p + 1) % 2 = 1 by omega, pairAt_eq h (by omega) hp h60, wsum_eq h hp (by omega) h60]
    exact hQ
theorem ex_ldnnp {c r : vmD} (h : Rel c r) {p : Nat} (hp : p < 4) (hn : gF c 19 9 = rw2 r (gF r 42 64)) (h59 : gF r 42 59 = 2) (h60 : gF r 42 60 = nI 0) (h61 : gF r 42 61 = nI (64 * 1 + 8 * (2 * p) + 3)) (x : Int32) : ExOk 36 43 (kP 0 p) x c r := by
  refine ⟨_, _, fun Q hQ => ?_, fun Q hQ => ?_, (h.mem (rw2 r (gF r 42 64)) (gA c 39 (iP 0 p))).mem (rw2 r (gF r 42 64) + 1) (gA c 39 (iP 0 p) >>> ((8 : Int32) &&& 31))⟩
  · rw [exe36]
    unfold Machine_transfer Machine_transfer_14
    rw [po43_eq, if_pos (by decide), po_kP (by omega) hp, if_neg (nI_pos (by have := iP_b (ix := 0) (p := p) hp; omega)), pair_eq (by omega) hp, sp43_eq, hn]
    exact hQ
  · rw [d237_eq (y := (2 * p)) (z := 3) (by omega) (by omega) (by omega) h59 h61]
    unfold MO_do237_26
    rw [h61, opx (by omega) (by omega) (by omega), if_neg (by decide), opz (by omega) (by omega) (by omega), if_neg (by decide), if_neg (by decide), if_neg (by decide), if_pos (by decide)]
    rw [show (2 * p) / 2 = p by omega, show (2 * p) % 2 = 0 by omega, wide_eq, if_pos (by decide), pairAt_eq h (by omega) hp h60, store_eq, store_eq]
    exact hQ
theorem ex_ldpnn {c r : vmD} (h : Rel c r) {p : Nat} (hp : p < 4) (hn : gF c 19 9 = rw2 r (gF r 42 64)) (h59 : gF r 42 59 = 2) (h60 : gF r 42 60 = nI 0) (h61 : gF r 42 61 = nI (64 * 1 + 8 * (2 * p + 1) + 3)) (x : Int32) : ExOk 36 (kP 0 p) 43 x c r := by
  refine ⟨_, _, fun Q hQ => ?_, fun Q hQ => ?_, h.sP (ix := 0) (p := p) (by omega) hp (rw2 r (rw2 r (gF r 42 64)))⟩
  · rw [exe36]
    unfold Machine_transfer Machine_transfer_14
    rw [po_kP (by omega) hp, if_neg (nI_pos (by have := iP_b (ix := 0) (p := p) hp; omega)), pr43_eq, hn, mw_rw h.2.1, savePair_eq (by omega) hp]
    exact hQ
  · rw [d237_eq (y := (2 * p + 1)) (z := 3) (by omega) (by omega) (by omega) h59 h61]
    unfold MO_do237_26
    rw [h61, opx (by omega) (by omega) (by omega), if_neg (by decide), opz (by omega) (by omega) (by omega), if_neg (by decide), if_neg (by decide), if_neg (by decide), if_pos (by decide)]
    rw [show (2 * p + 1) / 2 = p by omega, show (2 * p + 1) % 2 = 1 by omega, wide_eq, if_neg (by decide), wide_eq, setPair_eq (by omega) hp h60]
    exact hQ
theorem exq_eq (w f e x : Int32) (hw : w = 77 ∨ w = 78 ∨ w = 79 ∨ w = 80 ∨ w = 81 ∨ w = 82) (c : vmD) (Q : vmD → Prop) : Machine_execute w f e x c Q = Machine_executeRest w c Q := by
  rcases hw with rfl | rfl | rfl | rfl | rfl | rfl <;> simp (config := { decide := true }) only [Machine_execute, Machine_execute_22, Machine_execute_45, Machine_execute_69, Machine_execute_90, Machine_execute_123, Machine_execute_181, if_true, if_false]
theorem ex_neg {c r : vmD} (h : Rel c r) (h59 : gF r 42 59 = 2) (h60 : gF r 42 60 = nI 0) (h61 : gF r 42 61 = nI (64 * 1 + 8 * 0 + 4)) (x : Int32) : ExOk 77 0 0 x c r := by
  refine ⟨_, _, fun Q hQ => ?_, fun Q hQ => ?_, (h.oct6 (oct_fD 0 (gA r 65 7) ((0 - gA r 65 7) - 0))).oct7 (oct_and ((0 - gA r 65 7) - 0))⟩
  · rw [exq_eq _ _ _ _ (by decide)]
    unfold Machine_executeRest
    rw [h.ld7, h.fl_eq, if_neg (by decide), if_neg (by decide), if_neg (by decide), if_neg (by decide), if_pos (by decide), dif_eq, sv7_eq, (oct_and _).and]
    exact hQ
  · rw [d237_eq (y := 0) (z := 4) (by omega) (by omega) (by omega) h59 h61]
    unfold MO_do237_26
    rw [h61, opx (by omega) (by omega) (by omega), if_neg (by decide), opz (by omega) (by omega) (by omega), if_neg (by decide), if_neg (by decide), if_neg (by decide), if_neg (by decide), if_pos (by decide)]
    simp only [bnd_iff, rdif_eq]
    exact hQ
theorem ex_ret78 {c r : vmD} (h : Rel c r) (h59 : gF r 42 59 = 2) (h60 : gF r 42 60 = nI 0) (h61 : gF r 42 61 = nI (64 * 1 + 8 * 0 + 5)) (x : Int32) : ExOk 78 0 0 x c r := by
  have h2 := h.ret
  have e15 : gA (sA (sA c 39 10 ((gA c 39 10 + 2) &&& 65535)) 39 11 (mw c (gA c 39 10))) 39 15 = gF r 42 78 := by
    simp only [gA_sA, gA_sA_ne, gA_sF, gA_sG, gA_sL, gF_sA, gF_sF, gF_sF_ne, gF_sG, gF_sL, gG_sA, gG_sF, gG_sL, gG_sGe, gG_sG_ne, gL_sA, gL_sF, gL_sG, gL_sLe, gL_sL_ne, u1f_eq, u1f_ne, bnd_iff, not_false_eq_true, Nat.reduceEqDiff]
    exact h.gt15.1
  have e78 : gF (sF (sF r 42 75 ((gF r 42 75 + 2) &&& 65535)) 42 76 (rw2 r (gF r 42 75))) 42 78 = gF r 42 78 := by
    simp only [gA_sA, gA_sA_ne, gA_sF, gA_sG, gA_sL, gF_sA, gF_sF, gF_sF_ne, gF_sG, gF_sL, gG_sA, gG_sF, gG_sL, gG_sGe, gG_sG_ne, gL_sA, gL_sF, gL_sG, gL_sLe, gL_sL_ne, u1f_eq, u1f_ne, bnd_iff, not_false_eq_true, Nat.reduceEqDiff]
  refine ⟨_, _, fun Q hQ => ?_, fun Q hQ => ?_, h2.sg14 h.gt15.2⟩
  · rw [exq_eq _ _ _ _ (by decide)]
    unfold Machine_executeRest
    rw [h.ld7, h.fl_eq, if_neg (by decide), if_neg (by decide), if_neg (by decide), if_neg (by decide), if_neg (by decide), if_pos (by decide), pop_eq]
    simp only [bnd_iff, e15]
    exact hQ
  · rw [d237_eq (y := 0) (z := 5) (by omega) (by omega) (by omega) h59 h61]
    unfold MO_do237_26
    rw [h61, opx (by omega) (by omega) (by omega), if_neg (by decide), opz (by omega) (by omega) (by omega), if_neg (by decide), if_neg (by decide), if_neg (by decide), if_neg (by decide), if_neg (by decide), if_pos (by decide)]
    rw [popTwo_eq]
    simp only [bnd_iff, e78]
    exact hQ
theorem ex_ret79 {c r : vmD} (h : Rel c r) (h59 : gF r 42 59 = 2) (h60 : gF r 42 60 = nI 0) (h61 : gF r 42 61 = nI (64 * 1 + 8 * 1 + 5)) (x : Int32) : ExOk 79 0 0 x c r := by
  have h2 := h.ret
  have e15 : gA (sA (sA c 39 10 ((gA c 39 10 + 2) &&& 65535)) 39 11 (mw c (gA c 39 10))) 39 15 = gF r 42 78 := by
    simp only [gA_sA, gA_sA_ne, gA_sF, gA_sG, gA_sL, gF_sA, gF_sF, gF_sF_ne, gF_sG, gF_sL, gG_sA, gG_sF, gG_sL, gG_sGe, gG_sG_ne, gL_sA, gL_sF, gL_sG, gL_sLe, gL_sL_ne, u1f_eq, u1f_ne, bnd_iff, not_false_eq_true, Nat.reduceEqDiff]
    exact h.gt15.1
  have e78 : gF (sF (sF r 42 75 ((gF r 42 75 + 2) &&& 65535)) 42 76 (rw2 r (gF r 42 75))) 42 78 = gF r 42 78 := by
    simp only [gA_sA, gA_sA_ne, gA_sF, gA_sG, gA_sL, gF_sA, gF_sF, gF_sF_ne, gF_sG, gF_sL, gG_sA, gG_sF, gG_sL, gG_sGe, gG_sG_ne, gL_sA, gL_sF, gL_sG, gL_sLe, gL_sL_ne, u1f_eq, u1f_ne, bnd_iff, not_false_eq_true, Nat.reduceEqDiff]
  refine ⟨_, _, fun Q hQ => ?_, fun Q hQ => ?_, h2.sg14 h.gt15.2⟩
  · rw [exq_eq _ _ _ _ (by decide)]
    unfold Machine_executeRest
    rw [h.ld7, h.fl_eq, if_neg (by decide), if_neg (by decide), if_neg (by decide), if_neg (by decide), if_neg (by decide), if_neg (by decide), if_pos (by decide), pop_eq]
    simp only [bnd_iff, e15]
    exact hQ
  · rw [d237_eq (y := 1) (z := 5) (by omega) (by omega) (by omega) h59 h61]
    unfold MO_do237_26
    rw [h61, opx (by omega) (by omega) (by omega), if_neg (by decide), opz (by omega) (by omega) (by omega), if_neg (by decide), if_neg (by decide), if_neg (by decide), if_neg (by decide), if_neg (by decide), if_pos (by decide)]
    rw [popTwo_eq]
    simp only [bnd_iff, e78]
    exact hQ
theorem ex_im {c r : vmD} (h : Rel c r) {y : Nat} (hy : y = 0 ∨ y = 2 ∨ y = 3) (hn : gF c 19 9 = if y = 0 then 0 else nI (y - 1)) (h59 : gF r 42 59 = 2) (h60 : gF r 42 60 = nI 0) (h61 : gF r 42 61 = nI (64 * 1 + 8 * y + 6)) (x : Int32) : ExOk 80 41 0 x c r := by
  have ht : tri (if y = 0 then 0 else nI (y - 1)) := by
    rcases hy with rfl | rfl | rfl
    · exact Or.inl rfl
    · exact Or.inr (Or.inl rfl)
    · exact Or.inr (Or.inr rfl)
  refine ⟨_, _, fun Q hQ => ?_, fun Q hQ => ?_, h.sg16 ht⟩
  · rw [exq_eq _ _ _ _ (by decide)]
    unfold Machine_executeRest
    rw [h.ld7, h.fl_eq, if_neg (by decide), if_neg (by decide), if_neg (by decide), if_neg (by decide), if_neg (by decide), if_neg (by decide), if_neg (by decide), if_pos (by decide), nu_eq, hn]
    simp only [bnd_iff]
    exact hQ
  · rw [d237_eq (y := y) (z := 6) (by omega) (by omega) (by omega) h59 h61]
    unfold MO_do237_26
    rw [h61, opx (by omega) (by omega) (by omega), if_neg (by decide), opz (by omega) (by omega) (by omega), if_neg (by decide), if_neg (by decide), if_neg (by decide), if_neg (by decide), if_neg (by decide), if_neg (by decide), if_pos (by decide)]
    unfold MO_do237_305
    rcases hy with rfl | rfl | rfl
    · rw [if_pos (by decide)]
      simp only [bnd_iff]
      exact hQ
    · rw [if_neg (by decide)]
      simp only [bnd_iff]
      exact hQ
    · rw [if_neg (by decide)]
      simp only [bnd_iff]
      exact hQ
theorem ex_ldia {c r : vmD} (h : Rel c r) (h59 : gF r 42 59 = 2) (h60 : gF r 42 60 = nI 0) (h61 : gF r 42 61 = nI (64 * 1 + 8 * 0 + 7)) (x : Int32) : ExOk 36 17 8 x c r := by
  refine ⟨_, _, fun Q hQ => ?_, fun Q hQ => ?_, h.sg12 (h.o65 (k := 7) (by omega))⟩
  · rw [exe36]
    unfold Machine_transfer
    rw [po17_eq, if_pos (by decide), po8_eq, if_pos (by decide), h.ld7, sv17_eq, (h.o65 (k := 7) (by omega)).and, if_neg (by decide), if_neg (by decide)]
    exact hQ
  · rw [d237_eq (y := 0) (z := 7) (by omega) (by omega) (by omega) h59 h61]
    unfold MO_do237_26
    rw [h61, opx (by omega) (by omega) (by omega), if_neg (by decide), opz (by omega) (by omega) (by omega), if_neg (by decide), if_neg (by decide), if_neg (by decide), if_neg (by decide), if_neg (by decide), if_neg (by decide), if_neg (by decide)]
    unfold MO_doHalves
    rw [if_pos (by decide)]
    simp only [bnd_iff]
    exact hQ
theorem ex_ldra {c r : vmD} (h : Rel c r) (h59 : gF r 42 59 = 2) (h60 : gF r 42 60 = nI 0) (h61 : gF r 42 61 = nI (64 * 1 + 8 * 1 + 7)) (x : Int32) : ExOk 36 18 8 x c r := by
  refine ⟨_, _, fun Q hQ => ?_, fun Q hQ => ?_, h.sg13 (h.o65 (k := 7) (by omega))⟩
  · rw [exe36]
    unfold Machine_transfer
    rw [po18_eq, if_pos (by decide), po8_eq, if_pos (by decide), h.ld7, sv18_eq, (h.o65 (k := 7) (by omega)).and, if_neg (by decide), if_neg (by decide)]
    exact hQ
  · rw [d237_eq (y := 1) (z := 7) (by omega) (by omega) (by omega) h59 h61]
    unfold MO_do237_26
    rw [h61, opx (by omega) (by omega) (by omega), if_neg (by decide), opz (by omega) (by omega) (by omega), if_neg (by decide), if_neg (by decide), if_neg (by decide), if_neg (by decide), if_neg (by decide), if_neg (by decide), if_neg (by decide)]
    unfold MO_doHalves
    rw [if_neg (by decide), if_pos (by decide)]
    simp only [bnd_iff]
    exact hQ
theorem ex_ldai {c r : vmD} (h : Rel c r) (h59 : gF r 42 59 = 2) (h60 : gF r 42 60 = nI 0) (h61 : gF r 42 61 = nI (64 * 1 + 8 * 2 + 7)) (x : Int32) : ExOk 36 8 17 x c r := by
  have ho := h.gt12.2
  have h1 := h.oct7 ho
  have hf : oct (((gA r 65 6 &&& 1) ||| sgV (gF r 42 72)) ||| (if gF r 42 78 = 1 then 4 else 0)) := by
    refine oct_or (oct_or (oct_andl _ (h.o65 (k := 6) (by omega))) (oct_sg _)) ?_
    split
    · exact oct_lit (n := 4) (by omega)
    · exact oct_lit (n := 0) (by omega)
  have e15 : gA (cO 7 (gF r 42 72) c) 39 15 = gF r 42 78 := by
    show gA (sA c 39 0 _) 39 15 = _
    rw [gA_sA, u1f_ne _ _ (by decide)]
    exact h.gt15.1
  have e6 : gA (sA r 65 7 (gF r 42 72)) 65 6 = gA r 65 6 := by rw [gA_sA, u1f_ne _ _ (by decide)]
  have e7 : gA (sA r 65 7 (gF r 42 72)) 65 7 = gF r 42 72 := by rw [gA_sA, u1f_eq]
  refine ⟨_, _, fun Q hQ => ?_, fun Q hQ => ?_, h1.oct6 hf⟩
  · rw [exe36]
    unfold Machine_transfer Machine_transfer_47 Machine_transfer_63
    rw [po8_eq, if_pos (by decide), po17_eq, if_pos (by decide), ld17_eq, h.gt12.1, sv7_eq, ho.and, if_pos (by decide)]
    simp only [bnd_iff]
    rw [e15]
    by_cases e : gF r 42 78 = 1
    · rw [if_pos e] at hf hQ
      rw [if_pos e, h1.fl_eq, h1.ld7, e6, e7, sg_eq, sfl_eq, hf.and]
      exact hQ
    · rw [if_neg e] at hf hQ
      rw [if_neg e, h1.fl_eq, h1.ld7, e6, e7, sg_eq, sfl_eq, hf.and]
      exact hQ
  · rw [d237_eq (y := 2) (z := 7) (by omega) (by omega) (by omega) h59 h61]
    unfold MO_do237_26
    rw [h61, opx (by omega) (by omega) (by omega), if_neg (by decide), opz (by omega) (by omega) (by omega), if_neg (by decide), if_neg (by decide), if_neg (by decide), if_neg (by decide), if_neg (by decide), if_neg (by decide), if_neg (by decide)]
    unfold MO_doHalves MO_doHalves_82 MO_doHalves_123
    rw [if_neg (by decide), if_neg (by decide), if_pos (by decide), if_pos (by decide), tA (by decide)]
    simp only [bnd_iff]
    rw [show (Int32.toNatClampNeg 7) = 7 from rfl, show (Int32.toNatClampNeg 6) = 6 from rfl, e6, e7, rsg_eq, show gF (sA r 65 7 (gF r 42 72)) 42 78 = gF r 42 78 from rfl]
    by_cases e : gF r 42 78 = 1
    · rw [if_pos e] at hQ
      rw [if_pos e, tA (by decide)]
      exact hQ
    · rw [if_neg e] at hQ
      rw [if_neg e, tA (by decide)]
      exact hQ
theorem ex_ldar {c r : vmD} (h : Rel c r) (h59 : gF r 42 59 = 2) (h60 : gF r 42 60 = nI 0) (h61 : gF r 42 61 = nI (64 * 1 + 8 * 3 + 7)) (x : Int32) : ExOk 36 8 18 x c r := by
  have ho := h.gt13.2
  have h1 := h.oct7 ho
  have hf : oct (((gA r 65 6 &&& 1) ||| sgV (gF r 42 73)) ||| (if gF r 42 78 = 1 then 4 else 0)) := by
    refine oct_or (oct_or (oct_andl _ (h.o65 (k := 6) (by omega))) (oct_sg _)) ?_
    split
    · exact oct_lit (n := 4) (by omega)
    · exact oct_lit (n := 0) (by omega)
  have e15 : gA (cO 7 (gF r 42 73) c) 39 15 = gF r 42 78 := by
    show gA (sA c 39 0 _) 39 15 = _
    rw [gA_sA, u1f_ne _ _ (by decide)]
    exact h.gt15.1
  have e6 : gA (sA r 65 7 (gF r 42 73)) 65 6 = gA r 65 6 := by rw [gA_sA, u1f_ne _ _ (by decide)]
  have e7 : gA (sA r 65 7 (gF r 42 73)) 65 7 = gF r 42 73 := by rw [gA_sA, u1f_eq]
  refine ⟨_, _, fun Q hQ => ?_, fun Q hQ => ?_, h1.oct6 hf⟩
  · rw [exe36]
    unfold Machine_transfer Machine_transfer_47 Machine_transfer_63
    rw [po8_eq, if_pos (by decide), po18_eq, if_pos (by decide), ld18_eq, h.gt13.1, sv7_eq, ho.and, if_neg (by decide), if_pos (by decide)]
    simp only [bnd_iff]
    rw [e15]
    by_cases e : gF r 42 78 = 1
    · rw [if_pos e] at hf hQ
      rw [if_pos e, h1.fl_eq, h1.ld7, e6, e7, sg_eq, sfl_eq, hf.and]
      exact hQ
    · rw [if_neg e] at hf hQ
      rw [if_neg e, h1.fl_eq, h1.ld7, e6, e7, sg_eq, sfl_eq, hf.and]
      exact hQ
  · rw [d237_eq (y := 3) (z := 7) (by omega) (by omega) (by omega) h59 h61]
    unfold MO_do237_26
    rw [h61, opx (by omega) (by omega) (by omega), if_neg (by decide), opz (by omega) (by omega) (by omega), if_neg (by decide), if_neg (by decide), if_neg (by decide), if_neg (by decide), if_neg (by decide), if_neg (by decide), if_neg (by decide)]
    unfold MO_doHalves MO_doHalves_82 MO_doHalves_123
    rw [if_neg (by decide), if_neg (by decide), if_neg (by decide), if_pos (by decide), if_neg (by decide), tA (by decide)]
    simp only [bnd_iff]
    rw [show (Int32.toNatClampNeg 7) = 7 from rfl, show (Int32.toNatClampNeg 6) = 6 from rfl, e6, e7, rsg_eq, show gF (sA r 65 7 (gF r 42 73)) 42 78 = gF r 42 78 from rfl]
    by_cases e : gF r 42 78 = 1
    · rw [if_pos e] at hQ
      rw [if_pos e, tA (by decide)]
      exact hQ
    · rw [if_neg e] at hQ
      rw [if_neg e, tA (by decide)]
      exact hQ
