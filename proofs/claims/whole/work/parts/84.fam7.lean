/-! Families: behind 203: turns, BIT, RES, SET -/
theorem exe67 (f e x : Int32) (c : vmD) (Q : vmD → Prop) : Machine_execute 67 f e x c Q = Machine_turn 0 f c Q := by
  simp (config := { decide := true }) only [Machine_execute, Machine_execute_22, Machine_execute_45, Machine_execute_69, Machine_execute_90, Machine_execute_123, Machine_execute_150, Machine_execute_163, Machine_execute_181, Machine_execute_199, Machine_executeFlow, Machine_executeFlow_269, Machine_executeFlow_287, if_true, if_false]
  rfl
theorem exe68 (f e x : Int32) (c : vmD) (Q : vmD → Prop) : Machine_execute 68 f e x c Q = Machine_turn 1 f c Q := by
  simp (config := { decide := true }) only [Machine_execute, Machine_execute_22, Machine_execute_45, Machine_execute_69, Machine_execute_90, Machine_execute_123, Machine_execute_150, Machine_execute_163, Machine_execute_181, Machine_execute_199, Machine_executeFlow, Machine_executeFlow_269, Machine_executeFlow_287, if_true, if_false]
  rfl
theorem exe69 (f e x : Int32) (c : vmD) (Q : vmD → Prop) : Machine_execute 69 f e x c Q = Machine_turn 2 f c Q := by
  simp (config := { decide := true }) only [Machine_execute, Machine_execute_22, Machine_execute_45, Machine_execute_69, Machine_execute_90, Machine_execute_123, Machine_execute_150, Machine_execute_163, Machine_execute_181, Machine_execute_199, Machine_executeFlow, Machine_executeFlow_269, Machine_executeFlow_287, if_true, if_false]
  rfl
theorem exe70 (f e x : Int32) (c : vmD) (Q : vmD → Prop) : Machine_execute 70 f e x c Q = Machine_turn 3 f c Q := by
  simp (config := { decide := true }) only [Machine_execute, Machine_execute_22, Machine_execute_45, Machine_execute_69, Machine_execute_90, Machine_execute_123, Machine_execute_150, Machine_execute_163, Machine_execute_181, Machine_execute_199, Machine_executeFlow, Machine_executeFlow_269, Machine_executeFlow_287, if_true, if_false]
  rfl
theorem exe71 (f e x : Int32) (c : vmD) (Q : vmD → Prop) : Machine_execute 71 f e x c Q = Machine_turn 4 f c Q := by
  simp (config := { decide := true }) only [Machine_execute, Machine_execute_22, Machine_execute_45, Machine_execute_69, Machine_execute_90, Machine_execute_123, Machine_execute_150, Machine_execute_163, Machine_execute_181, Machine_execute_199, Machine_executeFlow, Machine_executeFlow_269, Machine_executeFlow_287, if_true, if_false]
  rfl
theorem exe72 (f e x : Int32) (c : vmD) (Q : vmD → Prop) : Machine_execute 72 f e x c Q = Machine_turn 5 f c Q := by
  simp (config := { decide := true }) only [Machine_execute, Machine_execute_22, Machine_execute_45, Machine_execute_69, Machine_execute_90, Machine_execute_123, Machine_execute_150, Machine_execute_163, Machine_execute_181, Machine_execute_199, Machine_executeFlow, Machine_executeFlow_269, Machine_executeFlow_287, if_true, if_false]
  rfl
theorem exe73 (f e x : Int32) (c : vmD) (Q : vmD → Prop) : Machine_execute 73 f e x c Q = Machine_turn 6 f c Q := by
  simp (config := { decide := true }) only [Machine_execute, Machine_execute_22, Machine_execute_45, Machine_execute_69, Machine_execute_90, Machine_execute_123, Machine_execute_150, Machine_execute_163, Machine_execute_181, Machine_execute_199, Machine_executeFlow, Machine_executeFlow_269, Machine_executeFlow_287, if_true, if_false]
  rfl
theorem exe74 (f e x : Int32) (c : vmD) (Q : vmD → Prop) : Machine_execute 74 f e x c Q = Machine_handleBit 74 e c Q := by
  simp (config := { decide := true }) only [Machine_execute, Machine_execute_22, Machine_execute_45, Machine_execute_69, Machine_execute_90, Machine_execute_123, Machine_execute_150, Machine_execute_163, Machine_execute_181, Machine_execute_199, Machine_executeFlow, Machine_executeFlow_269, Machine_executeFlow_287, if_true, if_false]
theorem exe75 (f e x : Int32) (c : vmD) (Q : vmD → Prop) : Machine_execute 75 f e x c Q = Machine_handleBit 75 e c Q := by
  simp (config := { decide := true }) only [Machine_execute, Machine_execute_22, Machine_execute_45, Machine_execute_69, Machine_execute_90, Machine_execute_123, Machine_execute_150, Machine_execute_163, Machine_execute_181, Machine_execute_199, Machine_executeFlow, Machine_executeFlow_269, Machine_executeFlow_287, if_true, if_false]
theorem exe76 (f e x : Int32) (c : vmD) (Q : vmD → Prop) : Machine_execute 76 f e x c Q = Machine_handleBit 76 e c Q := by
  simp (config := { decide := true }) only [Machine_execute, Machine_execute_22, Machine_execute_45, Machine_execute_69, Machine_execute_90, Machine_execute_123, Machine_execute_150, Machine_execute_163, Machine_execute_181, Machine_execute_199, Machine_executeFlow, Machine_executeFlow_269, Machine_executeFlow_287, if_true, if_false]
theorem d203_eq {r : vmD} {ix x y z : Nat} (hix : ix < 3) (hx : x < 4) (hy : y < 8) (hz : z < 8) (h59 : gF r 42 59 = 1) (h60 : gF r 42 60 = nI ix) (h61 : gF r 42 61 = nI (64 * x + 8 * y + z)) (x1 : Int32) (Q : vmD → Prop) : dispR x1 r Q = (if x = 0 then MO_turned (nI y) (vO ix z r) r fun v d => MO_setOctet (nI z) v d Q
    else if x = 1 then (if ((vO ix z r >>> (nI y &&& 31)) &&& 1) = 1 then MO_do203_84 (nI y) (vO ix z r) 1 r Q else MO_do203_84 (nI y) (vO ix z r) 0 r Q)
    else if x = 2 then MO_setOctet (nI z) (vO ix z r &&& (((1 : Int32) <<< (nI y &&& 31)) ^^^ (-1))) r Q else MO_setOctet (nI z) (vO ix z r ||| ((1 : Int32) <<< (nI y &&& 31))) r Q) := by
  unfold dispR
  rw [h59, if_pos rfl]
  unfold MO_do203
  simp only [bnd_iff]
  rw [h61, opy hx hy hz, opz hx hy hz, octetAt_eq hix hz h60, h61, opx hx hy hz]
  rcases (show x = 0 ∨ x = 1 ∨ x = 2 ∨ x = 3 by omega) with rfl | rfl | rfl | rfl <;> simp (config := { decide := true }) only [if_true, if_false]
theorem ex_cbrot {c r : vmD} (h : Rel c r) {ix y z : Nat} (hix : ix < 3) (hy : y < 8) (hz : z < 8) (hd : ix = 0 ∨ gF c 19 8 = gF r 42 62) (h6 : ¬ y = 6) (h59 : gF r 42 59 = 1) (h60 : gF r 42 60 = nI ix) (h61 : gF r 42 61 = nI (64 * 0 + 8 * y + z)) (x : Int32) : ExOk (nI (67 + way y)) (kO ix z) 0 x c r := by
  have hv := vO_oct h (ix := ix) hz
  have ht := toR_o y (gA r 65 6 &&& 1) (vO ix z r)
  have hf := oct_or (oct_or (oct_sg (toR y (gA r 65 6 &&& 1) (vO ix z r))) (oct_pa (toR y (gA r 65 6 &&& 1) (vO ix z r)))) (oct01 (ouR_b hy hv))
  have h2 := (h.SO (ix := ix) hz (toR y (gA r 65 6 &&& 1) (vO ix z r))).oct6 hf
  refine ⟨_, _, fun Q hQ => ?_, fun Q hQ => ?_, h2⟩
  · have hT : Machine_turn (nI (way y)) (kO ix z) c Q := by
      unfold Machine_turn
      rw [h.lO hix hz hd, mov_eq h hy h6 hv, h.sO hix hz hd, sg_eq, pa_eq ht, mou_eq hy h6, sfl_eq, hf.and]
      exact hQ
    rcases (show y = 0 ∨ y = 1 ∨ y = 2 ∨ y = 3 ∨ y = 4 ∨ y = 5 ∨ y = 7 by omega) with rfl | rfl | rfl | rfl | rfl | rfl | rfl
    · rw [show nI (67 + way 0) = 67 from rfl, exe67]; exact hT
    · rw [show nI (67 + way 1) = 68 from rfl, exe68]; exact hT
    · rw [show nI (67 + way 2) = 69 from rfl, exe69]; exact hT
    · rw [show nI (67 + way 3) = 70 from rfl, exe70]; exact hT
    · rw [show nI (67 + way 4) = 71 from rfl, exe71]; exact hT
    · rw [show nI (67 + way 5) = 72 from rfl, exe72]; exact hT
    · rw [show nI (67 + way 7) = 73 from rfl, exe73]; exact hT
  · rw [d203_eq hix (by omega) hy hz h59 h60 h61, if_pos rfl, tur_eq hy h6, setOctet_eq hix hz (by rw [gF_sA]; exact h60), rSt_F _ _ _ _ _ hz]
    exact hQ
def bC (y : Nat) (k v : Int32) : Int32 := ((((k ||| ((v &&& ((1 : Int32) <<< (nI y &&& 31))) &&& 128)) ||| (v &&& 40)) ||| 16) ||| (if (v &&& ((1 : Int32) <<< (nI y &&& 31))) = 0 then 68 else 0)) &&& 255
def bR (y : Nat) (k v : Int32) : Int32 := (((k ||| 16) ||| (v &&& 40)) ||| (if ((v >>> (nI y &&& 31)) &&& 1) = 1 then 0 else 68)) ||| (if ((v >>> (nI y &&& 31)) &&& 1) = 1 then (if y = 7 then 128 else 0) else 0)
theorem b_CR : ∀ y, y < 8 → ∀ k, k < 2 → ∀ n, n < 256 → bC y (nI k) (nI n) = bR y (nI k) (nI n) := by decide +kernel
theorem bCR {y : Nat} (hy : y < 8) {k v : Int32} (hk : k = 0 ∨ k = 1) (hv : oct v) : bC y k v = bR y k v := by
  obtain ⟨n, hn, rfl⟩ := hv
  rcases hk with rfl | rfl
  · exact b_CR y hy 0 (by omega) n hn
  · exact b_CR y hy 1 (by omega) n hn
theorem ex_bit {c r : vmD} (h : Rel c r) {ix y z : Nat} (hix : ix < 3) (hy : y < 8) (hz : z < 8) (hd : ix = 0 ∨ gF c 19 8 = gF r 42 62) (hn : gF c 19 9 = nI y) (h59 : gF r 42 59 = 1) (h60 : gF r 42 60 = nI ix) (h61 : gF r 42 61 = nI (64 * 1 + 8 * y + z)) (x : Int32) : ExOk 74 39 (kO ix z) x c r := by
  have hv := vO_oct h (ix := ix) hz
  have hb := bCR hy (and1 (h.o65 (k := 6) (by omega))) hv
  have hf : oct (bR y (gA r 65 6 &&& 1) (vO ix z r)) := hb ▸ oct_and _
  refine ⟨_, _, fun Q hQ => ?_, fun Q hQ => ?_, h.oct6 hf⟩
  · rw [exe74]
    unfold Machine_handleBit Machine_handleBit_68
    rw [h.lO hix hz hd, nu_eq, hn]
    simp only [bnd_iff]
    rw [if_neg (by decide), if_neg (by decide)]
    rw [← hb] at hQ
    unfold bC at hQ
    by_cases e : (vO ix z r &&& ((1 : Int32) <<< (nI y &&& 31))) = 0
    · rw [if_pos e, h.fl_eq, sfl_eq]
      rw [if_pos e] at hQ
      exact hQ
    · rw [if_neg e, h.fl_eq, sfl_eq]
      rw [if_neg e] at hQ
      exact hQ
  · rw [d203_eq hix (by omega) hy hz h59 h60 h61, if_neg (by decide), if_pos rfl]
    unfold MO_do203_84 MO_do203_120 MO_do203_138 MO_do203_139
    have t6 : ∀ (s : Int32) (d : vmD) (T : vmD → Prop), (ixOk (6 : Int32) 8 ∧ T (sA d 65 (Int32.toNatClampNeg 6) s)) = T (sA d 65 6 s) := fun s d T => tA (by decide)
    have e7 : nI y = 7 ↔ y = 7 := nI_eq (b := 7) (by omega) (by omega)
    simp only [bnd_iff, t6, e7]
    unfold bR at hQ
    by_cases e : ((vO ix z r >>> (nI y &&& 31)) &&& 1) = 1
    · by_cases e2 : y = 7
      · subst e2
        simp (config := { decide := true }) only [e, if_true, if_false] at hQ ⊢
        exact hQ
      · simp (config := { decide := true }) only [e, e2, if_true, if_false] at hQ ⊢
        exact hQ
    · simp (config := { decide := true }) only [e, if_true, if_false] at hQ ⊢
      exact hQ
theorem ex_res {c r : vmD} (h : Rel c r) {ix y z : Nat} (hix : ix < 3) (hy : y < 8) (hz : z < 8) (hd : ix = 0 ∨ gF c 19 8 = gF r 42 62) (hn : gF c 19 9 = nI y) (h59 : gF r 42 59 = 1) (h60 : gF r 42 60 = nI ix) (h61 : gF r 42 61 = nI (64 * 2 + 8 * y + z)) (x : Int32) : ExOk 75 39 (kO ix z) x c r := by
  refine ⟨_, _, fun Q hQ => ?_, fun Q hQ => ?_, h.SO (ix := ix) hz (vO ix z r &&& (((1 : Int32) <<< (nI y &&& 31)) ^^^ (-1)))⟩
  · rw [exe75]
    unfold Machine_handleBit
    rw [h.lO hix hz hd, nu_eq, hn]
    simp only [bnd_iff]
    rw [if_pos (by decide), h.sO hix hz hd]
    exact hQ
  · rw [d203_eq hix (by omega) hy hz h59 h60 h61, if_neg (by decide), if_neg (by decide), if_pos rfl, setOctet_eq hix hz h60]
    exact hQ
theorem ex_set {c r : vmD} (h : Rel c r) {ix y z : Nat} (hix : ix < 3) (hy : y < 8) (hz : z < 8) (hd : ix = 0 ∨ gF c 19 8 = gF r 42 62) (hn : gF c 19 9 = nI y) (h59 : gF r 42 59 = 1) (h60 : gF r 42 60 = nI ix) (h61 : gF r 42 61 = nI (64 * 3 + 8 * y + z)) (x : Int32) : ExOk 76 39 (kO ix z) x c r := by
  refine ⟨_, _, fun Q hQ => ?_, fun Q hQ => ?_, h.SO (ix := ix) hz (vO ix z r ||| ((1 : Int32) <<< (nI y &&& 31)))⟩
  · rw [exe76]
    unfold Machine_handleBit
    rw [h.lO hix hz hd, nu_eq, hn]
    simp only [bnd_iff]
    rw [if_neg (by decide), if_pos (by decide), h.sO hix hz hd]
    exact hQ
  · rw [d203_eq hix (by omega) hy hz h59 h60 h61, if_neg (by decide), if_neg (by decide), if_neg (by decide), setOctet_eq hix hz h60]
    exact hQ
