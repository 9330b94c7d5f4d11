/-! Families: ADD of pairs, turns, flags, bits -/
theorem add_id (F X Y r : Int32) (hF : oct F) (hr : r &&& 131071 = r) : ((F &&& 196) ||| (((X &&& 16) ||| ((r >>> ((16 : Int32) &&& 31)) &&& 1)) ||| (Y &&& 40))) &&& 255 = (((F &&& 196) ||| (X &&& 16)) ||| (r >>> ((16 : Int32) &&& 31))) ||| (Y &&& 40) := by
  have h17 : ∀ i, 17 ≤ i → bt r i = false := by
    intro i hi
    rw [← hr, b_and]
    rcases Nat.lt_or_ge i 32 with h | h
    · rw [(by decide +kernel : ∀ i, i < 32 → 17 ≤ i → bt 131071 i = false) i h hi, Bool.and_false]
    · rw [b_big h, Bool.false_and]
  apply b_ext
  intro i hi
  simp only [b_and, b_or, b_255, l_196, l_16, l_1, l_40, b_r16 _ hi]
  rcases (show i = 0 ∨ i = 1 ∨ i = 2 ∨ i = 3 ∨ i = 4 ∨ i = 5 ∨ i = 6 ∨ i = 7 ∨ i = 8 ∨ i = 9 ∨ i = 10 ∨ i = 11 ∨ i = 12 ∨ i = 13 ∨ i = 14 ∨ i = 15 ∨ i = 16 ∨ i = 17 ∨ i = 18 ∨ i = 19 ∨ i = 20 ∨ i = 21 ∨ i = 22 ∨ i = 23 ∨ i = 24 ∨ i = 25 ∨ i = 26 ∨ i = 27 ∨ i = 28 ∨ i = 29 ∨ i = 30 ∨ i = 31 by omega) with rfl | rfl | rfl | rfl | rfl | rfl | rfl | rfl | rfl | rfl | rfl | rfl | rfl | rfl | rfl | rfl | rfl | rfl | rfl | rfl | rfl | rfl | rfl | rfl | rfl | rfl | rfl | rfl | rfl | rfl | rfl | rfl
  all_goals simp [h17]
theorem sum17 {a v : Int32} (ha : wrd a) (hv : wrd v) : (a + v) &&& 131071 = a + v := by
  obtain ⟨i, hi, rfl⟩ := ha
  obtain ⟨j, hj, rfl⟩ := hv
  rw [nI_add, pk_andN (by omega) (m := 131071) 17 rfl, Nat.mod_eq_of_lt (by omega)]
def fA (F a v : Int32) : Int32 := (((F &&& 196) ||| ((((a ^^^ v) ^^^ (a + v)) >>> ((8 : Int32) &&& 31)) &&& 16)) ||| ((a + v) >>> ((16 : Int32) &&& 31))) ||| (((a + v) >>> ((8 : Int32) &&& 31)) &&& 40)
theorem ex_addhl {c r : vmD} (h : Rel c r) {ix p : Nat} (hix : ix < 3) (hp : p < 4) (h60 : gF r 42 60 = nI ix) (h59 : gF r 42 59 = 0) (h61 : gF r 42 61 = nI (64 * 0 + 8 * (2 * p + 1) + 1)) (x : Int32) : ExOk 48 (kP ix 2) (kP ix p) x c r := by
  have wa := h.wP (ix := ix) (p := 2) hix (by omega)
  have wv := h.wP (ix := ix) (p := p) hix hp
  have hid := add_id (gA r 65 6) (((gA c 39 (iP ix 2) ^^^ gA c 39 (iP ix p)) ^^^ (gA c 39 (iP ix 2) + gA c 39 (iP ix p))) >>> ((8 : Int32) &&& 31)) ((gA c 39 (iP ix 2) + gA c 39 (iP ix p)) >>> ((8 : Int32) &&& 31)) _ (h.o65 (k := 6) (by omega)) (sum17 wa wv)
  have hf : oct (fA (gA r 65 6) (gA c 39 (iP ix 2)) (gA c 39 (iP ix p))) := by
    unfold fA
    rw [← hid]
    exact oct_and _
  have hs := (h.oct6 hf).sP (ix := ix) (p := 2) hix (by omega) (gA c 39 (iP ix 2) + gA c 39 (iP ix p))
  refine ⟨_, _, fun Q hQ => ?_, fun Q hQ => ?_, hs⟩
  · rw [exe48]
    unfold Machine_calculate
    rw [if_neg (by decide), if_neg (by decide)]
    unfold Machine_calculate_22
    rw [po_kP hix (by omega), if_neg (nI_pos (by have := iP_b (ix := ix) (p := 2) (by omega); omega)), pair_eq hix hp]
    unfold Machine_calculateWide
    rw [pair_eq hix (by omega), if_neg (by decide)]
    unfold Machine_calculateWide_18
    rw [if_pos rfl]
    unfold Machine_calculateWide_42
    simp only [bnd_iff, if_true]
    rw [h.fl_eq, sfl_eq, Int32.add_zero, hid]
    unfold Machine_calculateWide_181
    rw [savePair_eq hix (by omega)]
    exact hQ
  · rw [doFirst_eq (by omega) (by omega) h61 h59]
    unfold MO_doFirst_26
    rw [h61, opz (by omega) (by omega) (by omega), if_neg (by decide), if_pos (by decide), show (2 * p + 1) / 2 = p by omega, show (2 * p + 1) % 2 = 1 by omega, if_neg (by decide), pairAt_eq h hix hp h60]
    unfold MO_addPair
    rw [base_eq h hix h60]
    simp only [bnd_iff]
    rw [setBase_eq hix (by rw [gF_sA]; exact h60)]
    have hw : ∀ (v : Int32) (d : vmD), rP ix 2 (v &&& 65535) d = rP ix 2 v d := by
      intro v d
      unfold rP
      rw [hi_w, lo_w, and2]
    rw [hw]
    exact hQ
/-! turns -/
def toR (y : Nat) (k v : Int32) : Int32 := (if y = 0 then (v <<< ((1 : Int32) &&& 31)) ||| (v >>> ((7 : Int32) &&& 31)) else if y = 1 then (v >>> ((1 : Int32) &&& 31)) ||| ((v &&& 1) <<< ((7 : Int32) &&& 31)) else if y = 2 then (v <<< ((1 : Int32) &&& 31)) ||| k else if y = 3 then (v >>> ((1 : Int32) &&& 31)) ||| (k <<< ((7 : Int32) &&& 31)) else if y = 4 then v <<< ((1 : Int32) &&& 31) else if y = 5 then (v >>> ((1 : Int32) &&& 31)) ||| (v &&& 128) else v >>> ((1 : Int32) &&& 31)) &&& 255
def ouR (y : Nat) (v : Int32) : Int32 := if y % 2 = 0 then v >>> ((7 : Int32) &&& 31) else v &&& 1
def way (y : Nat) : Nat := if y = 7 then 6 else y
def mvC (y : Nat) (k v : Int32) : Int32 := if y = 0 then ((v <<< ((1 : Int32) &&& 31)) ||| (v >>> ((7 : Int32) &&& 31))) &&& 255 else if y = 1 then (v >>> ((1 : Int32) &&& 31)) ||| ((v <<< ((7 : Int32) &&& 31)) &&& 128) else if y = 2 then ((v <<< ((1 : Int32) &&& 31)) ||| k) &&& 255 else if y = 3 then (v >>> ((1 : Int32) &&& 31)) ||| (k <<< ((7 : Int32) &&& 31)) else if y = 4 then (v <<< ((1 : Int32) &&& 31)) &&& 255 else if y = 5 then (v >>> ((1 : Int32) &&& 31)) ||| (v &&& 128) else v >>> ((1 : Int32) &&& 31)
theorem mv_to : ∀ y, y < 8 → ∀ k, k < 2 → ∀ n, n < 256 → mvC y (nI k) (nI n) = toR y (nI k) (nI n) := by decide +kernel
theorem ou_b : ∀ y, y < 8 → ∀ n, n < 256 → ouR y (nI n) = 0 ∨ ouR y (nI n) = 1 := by decide +kernel
theorem ouR_b {y : Nat} (hy : y < 8) {v : Int32} (hv : oct v) : ouR y v = 0 ∨ ouR y v = 1 := by
  obtain ⟨n, hn, rfl⟩ := hv
  exact ou_b y hy n hn
theorem mvC_to {y : Nat} (hy : y < 8) {k v : Int32} (hk : k = 0 ∨ k = 1) (hv : oct v) : mvC y k v = toR y k v := by
  obtain ⟨n, hn, rfl⟩ := hv
  rcases hk with rfl | rfl
  · exact mv_to y hy 0 (by omega) n hn
  · exact mv_to y hy 1 (by omega) n hn
theorem mov_eq {c r : vmD} (h : Rel c r) {y : Nat} (hy : y < 8) (h6 : ¬ y = 6) {v : Int32} (hv : oct v) (Q : Int32 → vmD → Prop) : Machine_moved (nI (way y)) v c Q = Q (toR y (gA r 65 6 &&& 1) v) c := by
  rw [← mvC_to hy (and1 (h.o65 (k := 6) (by omega))) hv]
  unfold Machine_moved
  rw [h.fl_eq]
  simp only [bnd_iff]
  unfold mvC way
  rcases (show y = 0 ∨ y = 1 ∨ y = 2 ∨ y = 3 ∨ y = 4 ∨ y = 5 ∨ y = 7 by omega) with rfl | rfl | rfl | rfl | rfl | rfl | rfl <;> simp (config := { decide := true }) only [if_true, if_false]
theorem mou_eq {y : Nat} (hy : y < 8) (h6 : ¬ y = 6) (v : Int32) (c : vmD) (Q : Int32 → vmD → Prop) : Machine_movedOut (nI (way y)) v c Q = Q (ouR y v) c := by
  unfold Machine_movedOut Machine_movedOut_14 ouR way
  rcases (show y = 0 ∨ y = 1 ∨ y = 2 ∨ y = 3 ∨ y = 4 ∨ y = 5 ∨ y = 7 by omega) with rfl | rfl | rfl | rfl | rfl | rfl | rfl <;> simp (config := { decide := true }) only [if_true, if_false]
theorem tur_eq {y : Nat} (hy : y < 8) (h6 : ¬ y = 6) (v : Int32) (r : vmD) (Q : Int32 → vmD → Prop) : MO_turned (nI y) v r Q = Q (toR y (gA r 65 6 &&& 1) v) (sA r 65 6 ((sgV (toR y (gA r 65 6 &&& 1) v) ||| paV (toR y (gA r 65 6 &&& 1) v)) ||| ouR y v)) := by
  unfold MO_turned MO_turned_26 MO_turned_147 toR ouR
  simp only [bnd_iff, rsg_eq, rpa_eq]
  rcases (show y = 0 ∨ y = 1 ∨ y = 2 ∨ y = 3 ∨ y = 4 ∨ y = 5 ∨ y = 7 by omega) with rfl | rfl | rfl | rfl | rfl | rfl | rfl <;> simp (config := { decide := true }) only [if_true, if_false]
theorem toR_o (y : Nat) (k v : Int32) : oct (toR y k v) := oct_and _
theorem fl1 : ∀ n, n < 256 → ∀ k, k < 2 → ((sgV (nI n) ||| paV (nI n)) ||| nI k) &&& 1 = (nI n &&& 0) ||| nI k := by decide +kernel
theorem flag1 {t k : Int32} (ht : oct t) (hk : k = 0 ∨ k = 1) : ((sgV t ||| paV t) ||| k) &&& 1 = k := by
  obtain ⟨n, hn, rfl⟩ := ht
  rcases hk with rfl | rfl
  · exact (fl1 n hn 0 (by omega)).trans (by rw [show (nI n &&& 0) = 0 from Int32.and_zero]; rfl)
  · exact (fl1 n hn 1 (by omega)).trans (by rw [show (nI n &&& 0) = 0 from Int32.and_zero]; rfl)
theorem oct01 {k : Int32} (hk : k = 0 ∨ k = 1) : oct k := by
  rcases hk with rfl | rfl
  · exact oct_lit (n := 0) (by omega)
  · exact oct_lit (n := 1) (by omega)
theorem exe39 (f e x : Int32) (c : vmD) (Q : vmD → Prop) : Machine_execute 39 f e x c Q = Machine_turnA 0 c Q := by
  simp (config := { decide := true }) only [Machine_execute, Machine_execute_22, Machine_execute_45, Machine_execute_69, Machine_execute_90, Machine_execute_123, Machine_execute_150, Machine_execute_163, Machine_execute_181, Machine_execute_199, Machine_executeFlow, Machine_executeFlow_269, Machine_executeFlow_287, if_true, if_false]
  rfl
theorem exe40 (f e x : Int32) (c : vmD) (Q : vmD → Prop) : Machine_execute 40 f e x c Q = Machine_turnA 1 c Q := by
  simp (config := { decide := true }) only [Machine_execute, Machine_execute_22, Machine_execute_45, Machine_execute_69, Machine_execute_90, Machine_execute_123, Machine_execute_150, Machine_execute_163, Machine_execute_181, Machine_execute_199, Machine_executeFlow, Machine_executeFlow_269, Machine_executeFlow_287, if_true, if_false]
  rfl
theorem exe41 (f e x : Int32) (c : vmD) (Q : vmD → Prop) : Machine_execute 41 f e x c Q = Machine_turnA 2 c Q := by
  simp (config := { decide := true }) only [Machine_execute, Machine_execute_22, Machine_execute_45, Machine_execute_69, Machine_execute_90, Machine_execute_123, Machine_execute_150, Machine_execute_163, Machine_execute_181, Machine_execute_199, Machine_executeFlow, Machine_executeFlow_269, Machine_executeFlow_287, if_true, if_false]
  rfl
theorem exe42 (f e x : Int32) (c : vmD) (Q : vmD → Prop) : Machine_execute 42 f e x c Q = Machine_turnA 3 c Q := by
  simp (config := { decide := true }) only [Machine_execute, Machine_execute_22, Machine_execute_45, Machine_execute_69, Machine_execute_90, Machine_execute_123, Machine_execute_150, Machine_execute_163, Machine_execute_181, Machine_execute_199, Machine_executeFlow, Machine_executeFlow_269, Machine_executeFlow_287, if_true, if_false]
  rfl
theorem turnA_eq {c r : vmD} (h : Rel c r) {y : Nat} (hy : y < 4) (Q : vmD → Prop) : Machine_turnA (nI y) c Q = Q (cO 6 ((((gA r 65 6 &&& 196) ||| (toR y (gA r 65 6 &&& 1) (gA r 65 7) &&& 40)) ||| ouR y (gA r 65 7)) &&& 255) (cO 7 (toR y (gA r 65 6 &&& 1) (gA r 65 7)) c)) := by
  have h1 := h.oct7 (toR_o y (gA r 65 6 &&& 1) (gA r 65 7))
  have ew : way y = y := if_neg (by omega)
  have em := mov_eq h (y := y) (by omega) (by omega) (h.o65 (k := 7) (by omega))
  have eo := mou_eq (y := y) (by omega) (by omega) (gA r 65 7)
  rw [ew] at em eo
  unfold Machine_turnA
  rw [h.ld7, em, sv7_eq, (toR_o _ _ _).and, h1.fl_eq, eo, sfl_eq]
  simp only [gA_sA, gA_sA_ne, gA_sF, gA_sG, gA_sL, gF_sA, gF_sF, gF_sF_ne, gF_sG, gF_sL, gG_sA, gG_sF, gG_sL, gG_sGe, gG_sG_ne, gL_sA, gL_sF, gL_sG, gL_sLe, gL_sL_ne, u1f_eq, u1f_ne, bnd_iff, not_false_eq_true, Nat.reduceEqDiff]
theorem ex_turnA {c r : vmD} (h : Rel c r) {y : Nat} (hy : y < 4) (h59 : gF r 42 59 = 0) (h61 : gF r 42 61 = nI (64 * 0 + 8 * y + 7)) (x : Int32) : ExOk (nI (39 + y)) 0 0 x c r := by
  have ob := ouR_b (y := y) (by omega) (h.o65 (k := 7) (by omega))
  have hf : oct (((gA r 65 6 &&& 196) ||| (toR y (gA r 65 6 &&& 1) (gA r 65 7) &&& 40)) ||| ouR y (gA r 65 7)) := oct_or (oct_or (oct_andl _ (h.o65 (k := 6) (by omega))) (oct_andl _ (toR_o _ _ _))) (oct01 ob)
  have hs := (h.oct7 (toR_o y (gA r 65 6 &&& 1) (gA r 65 7))).oct6 hf
  refine ⟨_, _, fun Q hQ => ?_, fun Q hQ => ?_, hs⟩
  · have ht : Machine_turnA (nI y) c Q := by
      rw [turnA_eq h hy, hf.and]
      exact hQ
    rcases (show y = 0 ∨ y = 1 ∨ y = 2 ∨ y = 3 by omega) with rfl | rfl | rfl | rfl
    · rw [show nI (39 + 0) = 39 from rfl, exe39]; exact ht
    · rw [show nI (39 + 1) = 40 from rfl, exe40]; exact ht
    · rw [show nI (39 + 2) = 41 from rfl, exe41]; exact ht
    · rw [show nI (39 + 3) = 42 from rfl, exe42]; exact ht
  · rw [doFirst_eq (by omega) (by omega) h61 h59]
    unfold MO_doFirst_26
    rw [h61, opz (by omega) (by omega) (by omega), if_neg (by decide), if_neg (by decide), if_neg (by decide), if_neg (by decide), if_neg (by decide), if_neg (by decide), if_neg (by decide)]
    unfold MO_doAlone
    have et := tur_eq (y := y) (by omega) (by omega) (gA r 65 7) r
    have e1 := flag1 (toR_o y (gA r 65 6 &&& 1) (gA r 65 7)) ob
    rw [sA_comm _ _ _ _ (by decide)] at hQ
    rcases (show y = 0 ∨ y = 1 ∨ y = 2 ∨ y = 3 by omega) with rfl | rfl | rfl | rfl
    · simp only [bnd_iff, et, gA_sA, gA_sA_ne, gA_sF, gA_sG, gA_sL, gF_sA, gF_sF, gF_sF_ne, gF_sG, gF_sL, gG_sA, gG_sF, gG_sL, gG_sGe, gG_sG_ne, gL_sA, gL_sF, gL_sG, gL_sLe, gL_sL_ne, u1f_eq, u1f_ne, bnd_iff, not_false_eq_true, Nat.reduceEqDiff, e1]
      rw [if_pos (by decide), sA_comm _ _ _ _ (by decide), sA_same, sA_comm _ _ _ _ (by decide)]
      first | exact hQ | (rw [sA_comm _ _ _ _ (by decide)]; exact hQ)
    · simp only [bnd_iff, et, gA_sA, gA_sA_ne, gA_sF, gA_sG, gA_sL, gF_sA, gF_sF, gF_sF_ne, gF_sG, gF_sL, gG_sA, gG_sF, gG_sL, gG_sGe, gG_sG_ne, gL_sA, gL_sF, gL_sG, gL_sLe, gL_sL_ne, u1f_eq, u1f_ne, bnd_iff, not_false_eq_true, Nat.reduceEqDiff, e1]
      rw [if_neg (by decide), if_pos (by decide), sA_comm _ _ _ _ (by decide), sA_same, sA_comm _ _ _ _ (by decide)]
      first | exact hQ | (rw [sA_comm _ _ _ _ (by decide)]; exact hQ)
    · simp only [bnd_iff, et, gA_sA, gA_sA_ne, gA_sF, gA_sG, gA_sL, gF_sA, gF_sF, gF_sF_ne, gF_sG, gF_sL, gG_sA, gG_sF, gG_sL, gG_sGe, gG_sG_ne, gL_sA, gL_sF, gL_sG, gL_sLe, gL_sL_ne, u1f_eq, u1f_ne, bnd_iff, not_false_eq_true, Nat.reduceEqDiff, e1]
      rw [if_neg (by decide), if_neg (by decide), if_pos (by decide), sA_comm _ _ _ _ (by decide), sA_same, sA_comm _ _ _ _ (by decide)]
      first | exact hQ | (rw [sA_comm _ _ _ _ (by decide)]; exact hQ)
    · simp only [bnd_iff, et, gA_sA, gA_sA_ne, gA_sF, gA_sG, gA_sL, gF_sA, gF_sF, gF_sF_ne, gF_sG, gF_sL, gG_sA, gG_sF, gG_sL, gG_sGe, gG_sG_ne, gL_sA, gL_sF, gL_sG, gL_sLe, gL_sL_ne, u1f_eq, u1f_ne, bnd_iff, not_false_eq_true, Nat.reduceEqDiff, e1]
      rw [if_neg (by decide), if_neg (by decide), if_neg (by decide), if_pos (by decide), sA_comm _ _ _ _ (by decide), sA_same, sA_comm _ _ _ _ (by decide)]
      first | exact hQ | (rw [sA_comm _ _ _ _ (by decide)]; exact hQ)
