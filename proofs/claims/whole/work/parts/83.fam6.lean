/-! Families: CPL, SCF, CCF, DAA; behind 203 -/
theorem xm1 : ∀ n, n < 256 → (nI n ^^^ (-1)) &&& 255 = (nI n ^^^ 255) ∧ (nI n ^^^ (-1)) &&& 40 = (nI n ^^^ 255) &&& 40 := by decide +kernel
theorem exr_eq (w f e x : Int32) (hw : w = 43 ∨ w = 44 ∨ w = 45 ∨ w = 46) (c : vmD) (Q : vmD → Prop) : Machine_execute w f e x c Q = Machine_executeRest w c Q := by
  rcases hw with rfl | rfl | rfl | rfl <;> simp (config := { decide := true }) only [Machine_execute, Machine_execute_22, Machine_execute_45, Machine_execute_69, Machine_execute_90, Machine_execute_123, Machine_execute_150, Machine_execute_163, Machine_execute_181, Machine_execute_199, Machine_executeFlow, Machine_executeFlow_269, Machine_executeFlow_287, if_true, if_false]
theorem ex_cpl {c r : vmD} (h : Rel c r) (h59 : gF r 42 59 = 0) (h61 : gF r 42 61 = nI (64 * 0 + 8 * 5 + 7)) (x : Int32) : ExOk 44 0 0 x c r := by
  obtain ⟨n, hn, en⟩ := h.o65 (k := 7) (by omega)
  have e1 := (xm1 n hn).1
  have e2 := (xm1 n hn).2
  rw [← en] at e1 e2
  have ha : oct (gA r 65 7 ^^^ 255) := e1 ▸ oct_and _
  have hf : oct (((gA r 65 6 &&& 197) ||| 18) ||| ((gA r 65 7 ^^^ 255) &&& 40)) := oct_or (oct_or (oct_andl _ (h.o65 (k := 6) (by omega))) (show oct 18 from oct_lit (n := 18) (by omega))) (oct_andl _ ha)
  refine ⟨_, _, fun Q hQ => ?_, fun Q hQ => ?_, (h.oct7 ha).oct6 hf⟩
  · rw [exr_eq _ _ _ _ (by decide)]
    unfold Machine_executeRest
    rw [h.ld7, h.fl_eq, if_neg (by decide), if_pos (by decide), sv7_eq, sfl_eq, e1, e2]
    have e3 : (((gA r 65 6 &&& 197) ||| 16) ||| 2) = ((gA r 65 6 &&& 197) ||| 18) := by rw [Int32.or_assoc]; rfl
    rw [e3, hf.and]
    exact hQ
  · rw [doFirst_eq (by omega) (by omega) h61 h59]
    unfold MO_doFirst_26
    rw [h61, opz (by omega) (by omega) (by omega), if_neg (by decide), if_neg (by decide), if_neg (by decide), if_neg (by decide), if_neg (by decide), if_neg (by decide), if_neg (by decide)]
    unfold MO_doAlone
    simp only [bnd_iff, gA_sA, gA_sA_ne, gA_sF, gA_sG, gA_sL, gF_sA, gF_sF, gF_sF_ne, gF_sG, gF_sL, gG_sA, gG_sF, gG_sL, gG_sGe, gG_sG_ne, gL_sA, gL_sF, gL_sG, gL_sLe, gL_sL_ne, u1f_eq, u1f_ne, bnd_iff, not_false_eq_true, Nat.reduceEqDiff]
    rw [if_neg (by decide), if_neg (by decide), if_neg (by decide), if_neg (by decide), if_neg (by decide), if_pos (by decide)]
    exact hQ
theorem ex_scf {c r : vmD} (h : Rel c r) (h59 : gF r 42 59 = 0) (h61 : gF r 42 61 = nI (64 * 0 + 8 * 6 + 7)) (x : Int32) : ExOk 45 0 0 x c r := by
  have hf : oct (((gA r 65 6 &&& 196) ||| 1) ||| (gA r 65 7 &&& 40)) := oct_or (oct_or (oct_andl _ (h.o65 (k := 6) (by omega))) (show oct 1 from oct_lit (n := 1) (by omega))) (oct_andl _ (h.o65 (k := 7) (by omega)))
  refine ⟨_, _, fun Q hQ => ?_, fun Q hQ => ?_, h.oct6 hf⟩
  · rw [exr_eq _ _ _ _ (by decide)]
    unfold Machine_executeRest
    rw [h.ld7, h.fl_eq, if_neg (by decide), if_neg (by decide), if_pos (by decide), sfl_eq]
    have e3 : (((gA r 65 6 &&& 196) ||| (gA r 65 7 &&& 40)) ||| 1) = (((gA r 65 6 &&& 196) ||| 1) ||| (gA r 65 7 &&& 40)) := by rw [Int32.or_assoc, Int32.or_comm (gA r 65 7 &&& 40), ← Int32.or_assoc]
    rw [e3, hf.and]
    exact hQ
  · rw [doFirst_eq (by omega) (by omega) h61 h59]
    unfold MO_doFirst_26
    rw [h61, opz (by omega) (by omega) (by omega), if_neg (by decide), if_neg (by decide), if_neg (by decide), if_neg (by decide), if_neg (by decide), if_neg (by decide), if_neg (by decide)]
    unfold MO_doAlone
    simp only [bnd_iff]
    rw [if_neg (by decide), if_neg (by decide), if_neg (by decide), if_neg (by decide), if_neg (by decide), if_neg (by decide), if_pos (by decide)]
    exact hQ
theorem ccf_id : ∀ n, n < 256 → ∀ m, m < 256 → ((((nI n &&& 196) ||| (nI m &&& 40)) ||| (if (nI n &&& 1) = 0 then 1 else 16)) &&& 255) = ((((nI n &&& 196) ||| ((nI n &&& 1) <<< ((4 : Int32) &&& 31))) ||| ((nI n &&& 1) ^^^ 1)) ||| (nI m &&& 40)) := by
  intro n hn m hm
  have hF : oct (nI n) := ⟨n, hn, rfl⟩
  have hA : oct (nI m) := ⟨m, hm, rfl⟩
  rcases and1 hF with e | e <;> rw [e]
  · rw [if_pos rfl, show ((0 : Int32) <<< ((4 : Int32) &&& 31)) = 0 by decide, show ((0 : Int32) ^^^ 1) = 1 by decide, or_0]
    rw [(oct_or (oct_or (oct_andl _ hF) (oct_andl _ hA)) (show oct 1 from oct_lit (n := 1) (by omega))).and, Int32.or_assoc, Int32.or_comm (nI m &&& 40), ← Int32.or_assoc]
  · rw [if_neg (by decide), show ((1 : Int32) <<< ((4 : Int32) &&& 31)) = 16 by decide, show ((1 : Int32) ^^^ 1) = 0 by decide, or_0]
    rw [(oct_or (oct_or (oct_andl _ hF) (oct_andl _ hA)) (show oct 16 from oct_lit (n := 16) (by omega))).and, Int32.or_assoc, Int32.or_comm (nI m &&& 40), ← Int32.or_assoc]
theorem ex_ccf {c r : vmD} (h : Rel c r) (h59 : gF r 42 59 = 0) (h61 : gF r 42 61 = nI (64 * 0 + 8 * 7 + 7)) (x : Int32) : ExOk 46 0 0 x c r := by
  obtain ⟨n, hn, en⟩ := h.o65 (k := 6) (by omega)
  obtain ⟨m, hm, em⟩ := h.o65 (k := 7) (by omega)
  have hid := ccf_id n hn m hm
  rw [← en, ← em] at hid
  refine ⟨_, _, fun Q hQ => ?_, fun Q hQ => ?_, h.oct6 (hid ▸ oct_and _)⟩
  · rw [exr_eq _ _ _ _ (by decide)]
    unfold Machine_executeRest Machine_executeRest_272
    rw [h.ld7, h.fl_eq, if_neg (by decide), if_neg (by decide), if_neg (by decide), if_pos (by decide)]
    rw [← hid] at hQ
    by_cases e : (gA r 65 6 &&& 1) = 0
    · rw [if_pos e, sfl_eq]
      rw [if_pos e] at hQ
      exact hQ
    · rw [if_neg e, sfl_eq]
      rw [if_neg e] at hQ
      exact hQ
  · rw [doFirst_eq (by omega) (by omega) h61 h59]
    unfold MO_doFirst_26
    rw [h61, opz (by omega) (by omega) (by omega), if_neg (by decide), if_neg (by decide), if_neg (by decide), if_neg (by decide), if_neg (by decide), if_neg (by decide), if_neg (by decide)]
    unfold MO_doAlone
    simp only [bnd_iff]
    rw [if_neg (by decide), if_neg (by decide), if_neg (by decide), if_neg (by decide), if_neg (by decide), if_neg (by decide), if_neg (by decide)]
    exact hQ
/-! DAA -/
def dT (a f : Int32) : Int32 := (if ¬ (f &&& 16) = 0 ∨ (9 : Int32) < a &&& 15 then 6 else 0) + (if ¬ (f &&& 1) = 0 ∨ (153 : Int32) < a then 96 else 0)
def dA' (a f : Int32) : Int32 := (if (f &&& 2) = 0 then a + dT a f else a - dT a f) &&& 255
def dF (a f : Int32) : Int32 := (((sgV (dA' a f) ||| paV (dA' a f)) ||| (f &&& 2)) ||| (if ¬ (f &&& 1) = 0 ∨ (153 : Int32) < a then 1 else 0)) ||| (if (f &&& 2) = 0 then (if (9 : Int32) < a &&& 15 then 16 else 0) else (if ¬ (f &&& 16) = 0 ∧ a &&& 15 < 6 then 16 else 0))
theorem dF_o {a f : Int32} (hf : oct f) : oct (dF a f) := by
  unfold dF
  refine oct_or (oct_or (oct_or (oct_or (oct_sg _) (oct_pa _)) (oct_andl _ hf)) ?_) ?_
  · split
    · exact oct_lit (n := 1) (by omega)
    · exact oct_lit (n := 0) (by omega)
  · split
    · split
      · exact oct_lit (n := 16) (by omega)
      · exact oct_lit (n := 0) (by omega)
    · split
      · exact oct_lit (n := 16) (by omega)
      · exact oct_lit (n := 0) (by omega)
theorem f1_1 {f : Int32} (hf : oct f) : ((f &&& 1) = 1) = ¬ (f &&& 1) = 0 := by
  rcases and1 hf with e | e <;> rw [e] <;> decide
theorem adj_eq {a f : Int32} (hf : oct f) (c : vmD) (Q : vmD → Prop) : Machine_adjust a f c Q = Q (cO 6 (dF a f) (cO 7 (dA' a f) c)) := by
  have ho : oct (dA' a f) := oct_and _
  have h2 := (dF_o (a := a) hf).and
  unfold Machine_adjust Machine_adjust_16 Machine_adjust_30 Machine_adjust_45 Machine_adjust_50 Machine_adjust_63 Machine_adjust_69 Machine_adjust_80 Machine_adjust_99 Machine_adjust_125 Machine_adjust_140 Machine_adjust_176 Machine_adjust_188
  have hsave : ∀ (v : Int32) (P : vmD → Prop), Machine_save 8 (v &&& 255) c P = P (cO 7 (v &&& 255) c) := fun v P => by rw [sv7_eq, (oct_and v).and]
  simp only [bnd_iff, hsave, sg_eq, pa_eq (oct_and _), sfl_eq]
  rw [← h2]
  unfold dF dA' dT
  by_cases b2 : (f &&& 2) = 0
  all_goals by_cases b16 : (f &&& 16) = 0
  all_goals by_cases b1 : (f &&& 1) = 0
  all_goals by_cases b153 : (153 : Int32) < a
  all_goals by_cases b9 : (9 : Int32) < a &&& 15
  all_goals by_cases b6 : a &&& 15 < 6
  all_goals simp (config := { decide := true }) only [b2, b16, b1, b153, b9, b6, if_true, if_false, not_true, not_false_eq_true, or_true, true_or, or_false, false_or, and_true, true_and, and_false, false_and]
theorem radj_eq {r : vmD} (hf : oct (gA r 65 6)) (Q : vmD → Prop) : MO_adjust r Q = Q (sA (sA r 65 7 (dA' (gA r 65 7) (gA r 65 6))) 65 6 (dF (gA r 65 7) (gA r 65 6))) := by
  have t7 : ∀ (s : Int32) (P : vmD → Prop), (ixOk (7 : Int32) 8 ∧ P (sA r 65 (Int32.toNatClampNeg 7) s)) = P (sA r 65 7 s) := fun s P => tA (by decide)
  have t6 : ∀ (s : Int32) (d : vmD) (P : vmD → Prop), (ixOk (6 : Int32) 8 ∧ P (sA d 65 (Int32.toNatClampNeg 6) s)) = P (sA d 65 6 s) := fun s d P => tA (by decide)
  unfold MO_adjust MO_adjust_35 MO_adjust_40 MO_adjust_55 MO_adjust_61 MO_adjust_72 MO_adjust_86 MO_adjust_110 MO_adjust_125 MO_adjust_149 MO_adjust_197 MO_adjust_209
  simp only [bnd_iff, f1_1 hf]
  unfold dF dA' dT
  generalize ha : gA r 65 7 = a at *
  generalize hf' : gA r 65 6 = f at *
  by_cases b2 : (f &&& 2) = 0
  all_goals by_cases b16 : (f &&& 16) = 0
  all_goals by_cases b1 : (f &&& 1) = 0
  all_goals by_cases b153 : (153 : Int32) < a
  all_goals by_cases b9 : (9 : Int32) < a &&& 15
  all_goals by_cases b6 : a &&& 15 < 6
  all_goals simp (config := { decide := true }) only [b2, b16, b1, b153, b9, b6, if_true, if_false, not_true, not_false_eq_true, or_true, true_or, or_false, false_or, and_true, true_and, and_false, false_and, rsg_eq, rpa_eq, gA_sA, show Int32.toNatClampNeg 7 = 7 from rfl, show Int32.toNatClampNeg 6 = 6 from rfl, u1f_eq]
theorem ex_daa {c r : vmD} (h : Rel c r) (h59 : gF r 42 59 = 0) (h61 : gF r 42 61 = nI (64 * 0 + 8 * 4 + 7)) (x : Int32) : ExOk 43 0 0 x c r := by
  have hf := h.o65 (k := 6) (by omega)
  refine ⟨_, _, fun Q hQ => ?_, fun Q hQ => ?_, (h.oct7 (show oct (dA' (gA r 65 7) (gA r 65 6)) from oct_and _)).oct6 (dF_o (a := gA r 65 7) hf)⟩
  · rw [exr_eq _ _ _ _ (by decide)]
    unfold Machine_executeRest
    rw [h.ld7, h.fl_eq, if_pos rfl, adj_eq hf]
    exact hQ
  · rw [doFirst_eq (by omega) (by omega) h61 h59]
    unfold MO_doFirst_26
    rw [h61, opz (by omega) (by omega) (by omega), if_neg (by decide), if_neg (by decide), if_neg (by decide), if_neg (by decide), if_neg (by decide), if_neg (by decide), if_neg (by decide)]
    unfold MO_doAlone
    simp only [bnd_iff]
    rw [if_neg (by decide), if_neg (by decide), if_neg (by decide), if_neg (by decide), if_pos (by decide), radj_eq hf]
    exact hQ
