/-! The machines' small methods, as equations -/
theorem shr0 (x : Int32) : x >>> ((0 : Int32) &&& 31) = x := by
  apply b_ext
  intro i hi
  rw [show ((0 : Int32) &&& 31) = (nI 0 &&& 31) from rfl, b_sshr 0 (by omega) x hi, if_pos (by omega), Nat.zero_add]
theorem fl_eq (c : vmD) (Q : Int32 → vmD → Prop) : Machine_flags c Q = Q (gA c 39 0 &&& 255) c := propext bnd_iff
theorem Rel.fl_eq {c r : vmD} (h : Rel c r) (Q : Int32 → vmD → Prop) : Machine_flags c Q = Q (gA r 65 6) c := by rw [_root_.Jvm.Pilot.COpcodeForgeLaw_law_r8137_1f76cf.fl_eq, h.rd6]
theorem sfl_eq (x : Int32) (c : vmD) (Q : vmD → Prop) : Machine_setFlags x c Q = Q (cO 6 (x &&& 255) c) := by
  unfold Machine_setFlags
  exact (propext bnd_iff).trans (propext bnd_iff)
theorem nu_eq (c : vmD) (Q : Int32 → vmD → Prop) : Instruction_number c Q = Q (gF c 19 9) c := rfl
theorem di_eq (c : vmD) (Q : Int32 → vmD → Prop) : Instruction_distance c Q = Q (gF c 19 8) c := rfl
theorem Rel.ld0 {c r : vmD} (h : Rel c r) (Q : Int32 → vmD → Prop) : Machine_load 1 c Q = Q (gA r 65 0) c := by
  unfold Machine_load
  rw [if_neg (by decide), if_neg (by decide), tA (by decide), ← h.rd0]
  refine (propext bnd_iff).trans ?_
  show Q ((gA c 39 1 >>> ((8 : Int32) &&& 31)) &&& 255) c = _
  rfl
theorem sv0_eq (v : Int32) (c : vmD) (Q : vmD → Prop) : Machine_save 1 v c Q = Q (cO 0 (v &&& 255) c) := by
  unfold Machine_save Machine_save_68
  refine (propext bnd_iff).trans ?_
  rw [if_neg (by decide), if_neg (by decide)]
  refine (propext bnd_iff).trans ?_
  rw [if_pos (by decide), tA (by decide)]
  refine (propext bnd_iff).trans ?_
  rw [tA (by decide)]
  exact propext bnd_iff
theorem Rel.ld1 {c r : vmD} (h : Rel c r) (Q : Int32 → vmD → Prop) : Machine_load 2 c Q = Q (gA r 65 1) c := by
  unfold Machine_load
  rw [if_neg (by decide), if_neg (by decide), tA (by decide), ← h.rd1]
  refine (propext bnd_iff).trans ?_
  show Q ((gA c 39 1 >>> ((0 : Int32) &&& 31)) &&& 255) c = _
  rw [shr0]
theorem sv1_eq (v : Int32) (c : vmD) (Q : vmD → Prop) : Machine_save 2 v c Q = Q (cO 1 (v &&& 255) c) := by
  unfold Machine_save Machine_save_68
  refine (propext bnd_iff).trans ?_
  rw [if_neg (by decide), if_neg (by decide)]
  refine (propext bnd_iff).trans ?_
  rw [if_neg (by decide), tA (by decide)]
  refine (propext bnd_iff).trans ?_
  rw [tA (by decide)]
  exact propext bnd_iff
theorem Rel.ld2 {c r : vmD} (h : Rel c r) (Q : Int32 → vmD → Prop) : Machine_load 3 c Q = Q (gA r 65 2) c := by
  unfold Machine_load
  rw [if_neg (by decide), if_neg (by decide), tA (by decide), ← h.rd2]
  refine (propext bnd_iff).trans ?_
  show Q ((gA c 39 2 >>> ((8 : Int32) &&& 31)) &&& 255) c = _
  rfl
theorem sv2_eq (v : Int32) (c : vmD) (Q : vmD → Prop) : Machine_save 3 v c Q = Q (cO 2 (v &&& 255) c) := by
  unfold Machine_save Machine_save_68
  refine (propext bnd_iff).trans ?_
  rw [if_neg (by decide), if_neg (by decide)]
  refine (propext bnd_iff).trans ?_
  rw [if_pos (by decide), tA (by decide)]
  refine (propext bnd_iff).trans ?_
  rw [tA (by decide)]
  exact propext bnd_iff
theorem Rel.ld3 {c r : vmD} (h : Rel c r) (Q : Int32 → vmD → Prop) : Machine_load 4 c Q = Q (gA r 65 3) c := by
  unfold Machine_load
  rw [if_neg (by decide), if_neg (by decide), tA (by decide), ← h.rd3]
  refine (propext bnd_iff).trans ?_
  show Q ((gA c 39 2 >>> ((0 : Int32) &&& 31)) &&& 255) c = _
  rw [shr0]
theorem sv3_eq (v : Int32) (c : vmD) (Q : vmD → Prop) : Machine_save 4 v c Q = Q (cO 3 (v &&& 255) c) := by
  unfold Machine_save Machine_save_68
  refine (propext bnd_iff).trans ?_
  rw [if_neg (by decide), if_neg (by decide)]
  refine (propext bnd_iff).trans ?_
  rw [if_neg (by decide), tA (by decide)]
  refine (propext bnd_iff).trans ?_
  rw [tA (by decide)]
  exact propext bnd_iff
theorem Rel.ld4 {c r : vmD} (h : Rel c r) (Q : Int32 → vmD → Prop) : Machine_load 5 c Q = Q (gA r 65 4) c := by
  unfold Machine_load
  rw [if_neg (by decide), if_neg (by decide), tA (by decide), ← h.rd4]
  refine (propext bnd_iff).trans ?_
  show Q ((gA c 39 3 >>> ((8 : Int32) &&& 31)) &&& 255) c = _
  rfl
theorem sv4_eq (v : Int32) (c : vmD) (Q : vmD → Prop) : Machine_save 5 v c Q = Q (cO 4 (v &&& 255) c) := by
  unfold Machine_save Machine_save_68
  refine (propext bnd_iff).trans ?_
  rw [if_neg (by decide), if_neg (by decide)]
  refine (propext bnd_iff).trans ?_
  rw [if_pos (by decide), tA (by decide)]
  refine (propext bnd_iff).trans ?_
  rw [tA (by decide)]
  exact propext bnd_iff
theorem Rel.ld5 {c r : vmD} (h : Rel c r) (Q : Int32 → vmD → Prop) : Machine_load 6 c Q = Q (gA r 65 5) c := by
  unfold Machine_load
  rw [if_neg (by decide), if_neg (by decide), tA (by decide), ← h.rd5]
  refine (propext bnd_iff).trans ?_
  show Q ((gA c 39 3 >>> ((0 : Int32) &&& 31)) &&& 255) c = _
  rw [shr0]
theorem sv5_eq (v : Int32) (c : vmD) (Q : vmD → Prop) : Machine_save 6 v c Q = Q (cO 5 (v &&& 255) c) := by
  unfold Machine_save Machine_save_68
  refine (propext bnd_iff).trans ?_
  rw [if_neg (by decide), if_neg (by decide)]
  refine (propext bnd_iff).trans ?_
  rw [if_neg (by decide), tA (by decide)]
  refine (propext bnd_iff).trans ?_
  rw [tA (by decide)]
  exact propext bnd_iff
theorem Rel.ld7 {c r : vmD} (h : Rel c r) (Q : Int32 → vmD → Prop) : Machine_load 8 c Q = Q (gA r 65 7) c := by
  unfold Machine_load Machine_load_33
  rw [if_neg (by decide), if_pos (by decide), if_pos rfl, ← h.rd7]
  exact propext bnd_iff
theorem sv7_eq (v : Int32) (c : vmD) (Q : vmD → Prop) : Machine_save 8 v c Q = Q (cO 7 (v &&& 255) c) := by
  unfold Machine_save Machine_save_70
  refine (propext bnd_iff).trans ?_
  rw [if_neg (by decide), if_pos (by decide), if_pos rfl]
  exact (propext bnd_iff).trans (propext bnd_iff)
theorem pr9_eq (c : vmD) (Q : Int32 → vmD → Prop) : Machine_pair 9 c Q = Q (gA c 39 1) c := by
  simp (config := { decide := true }) only [Machine_pair, Machine_pairOf, bnd_iff, if_true, if_false, true_and]
  rfl
theorem sp9_eq (v : Int32) (c : vmD) (Q : vmD → Prop) : Machine_savePair 9 v c Q = Q (sA c 39 1 (v &&& 65535)) := by
  simp (config := { decide := true }) only [Machine_savePair, Machine_pairOf, bnd_iff, if_true, if_false, true_and]
  rfl
theorem po9_eq (c : vmD) (Q : Int32 → vmD → Prop) : Machine_pairOf 9 c Q = Q 1 c := by
  simp (config := { decide := true }) only [Machine_pairOf, if_true, if_false]
theorem pr10_eq (c : vmD) (Q : Int32 → vmD → Prop) : Machine_pair 10 c Q = Q (gA c 39 2) c := by
  simp (config := { decide := true }) only [Machine_pair, Machine_pairOf, bnd_iff, if_true, if_false, true_and]
  rfl
theorem sp10_eq (v : Int32) (c : vmD) (Q : vmD → Prop) : Machine_savePair 10 v c Q = Q (sA c 39 2 (v &&& 65535)) := by
  simp (config := { decide := true }) only [Machine_savePair, Machine_pairOf, bnd_iff, if_true, if_false, true_and]
  rfl
theorem po10_eq (c : vmD) (Q : Int32 → vmD → Prop) : Machine_pairOf 10 c Q = Q 2 c := by
  simp (config := { decide := true }) only [Machine_pairOf, if_true, if_false]
theorem pr11_eq (c : vmD) (Q : Int32 → vmD → Prop) : Machine_pair 11 c Q = Q (gA c 39 3) c := by
  simp (config := { decide := true }) only [Machine_pair, Machine_pairOf, bnd_iff, if_true, if_false, true_and]
  rfl
theorem sp11_eq (v : Int32) (c : vmD) (Q : vmD → Prop) : Machine_savePair 11 v c Q = Q (sA c 39 3 (v &&& 65535)) := by
  simp (config := { decide := true }) only [Machine_savePair, Machine_pairOf, bnd_iff, if_true, if_false, true_and]
  rfl
theorem po11_eq (c : vmD) (Q : Int32 → vmD → Prop) : Machine_pairOf 11 c Q = Q 3 c := by
  simp (config := { decide := true }) only [Machine_pairOf, if_true, if_false]
theorem pr12_eq (c : vmD) (Q : Int32 → vmD → Prop) : Machine_pair 12 c Q = Q (gA c 39 10) c := by
  simp (config := { decide := true }) only [Machine_pair, Machine_pairOf, bnd_iff, if_true, if_false, true_and]
  rfl
theorem sp12_eq (v : Int32) (c : vmD) (Q : vmD → Prop) : Machine_savePair 12 v c Q = Q (sA c 39 10 (v &&& 65535)) := by
  simp (config := { decide := true }) only [Machine_savePair, Machine_pairOf, bnd_iff, if_true, if_false, true_and]
  rfl
theorem po12_eq (c : vmD) (Q : Int32 → vmD → Prop) : Machine_pairOf 12 c Q = Q 10 c := by
  simp (config := { decide := true }) only [Machine_pairOf, if_true, if_false]
theorem pr13_eq (c : vmD) (Q : Int32 → vmD → Prop) : Machine_pair 13 c Q = Q (gA c 39 0) c := by
  simp (config := { decide := true }) only [Machine_pair, Machine_pairOf, bnd_iff, if_true, if_false, true_and]
  rfl
theorem sp13_eq (v : Int32) (c : vmD) (Q : vmD → Prop) : Machine_savePair 13 v c Q = Q (sA c 39 0 (v &&& 65535)) := by
  simp (config := { decide := true }) only [Machine_savePair, Machine_pairOf, bnd_iff, if_true, if_false, true_and]
  rfl
theorem po13_eq (c : vmD) (Q : Int32 → vmD → Prop) : Machine_pairOf 13 c Q = Q 0 c := by
  simp (config := { decide := true }) only [Machine_pairOf, if_true, if_false]
theorem pr15_eq (c : vmD) (Q : Int32 → vmD → Prop) : Machine_pair 15 c Q = Q (gA c 39 8) c := by
  simp (config := { decide := true }) only [Machine_pair, Machine_pairOf, bnd_iff, if_true, if_false, true_and]
  rfl
theorem sp15_eq (v : Int32) (c : vmD) (Q : vmD → Prop) : Machine_savePair 15 v c Q = Q (sA c 39 8 (v &&& 65535)) := by
  simp (config := { decide := true }) only [Machine_savePair, Machine_pairOf, bnd_iff, if_true, if_false, true_and]
  rfl
theorem po15_eq (c : vmD) (Q : Int32 → vmD → Prop) : Machine_pairOf 15 c Q = Q 8 c := by
  simp (config := { decide := true }) only [Machine_pairOf, if_true, if_false]
theorem pr16_eq (c : vmD) (Q : Int32 → vmD → Prop) : Machine_pair 16 c Q = Q (gA c 39 9) c := by
  simp (config := { decide := true }) only [Machine_pair, Machine_pairOf, bnd_iff, if_true, if_false, true_and]
  rfl
theorem sp16_eq (v : Int32) (c : vmD) (Q : vmD → Prop) : Machine_savePair 16 v c Q = Q (sA c 39 9 (v &&& 65535)) := by
  simp (config := { decide := true }) only [Machine_savePair, Machine_pairOf, bnd_iff, if_true, if_false, true_and]
  rfl
theorem po16_eq (c : vmD) (Q : Int32 → vmD → Prop) : Machine_pairOf 16 c Q = Q 9 c := by
  simp (config := { decide := true }) only [Machine_pairOf, if_true, if_false]
theorem pr43_eq (c : vmD) (Q : Int32 → vmD → Prop) : Machine_pair 43 c Q = Q (mw c (gF c 19 9)) c := by
  simp (config := { decide := true }) only [Machine_pair, Machine_pairOf, Machine_pair_22, nu_eq, wat_eq, bnd_iff, if_true, if_false]
theorem pr37_eq (c : vmD) (Q : Int32 → vmD → Prop) : Machine_pair 37 c Q = Q (gF c 19 9) c := by
  simp (config := { decide := true }) only [Machine_pair, Machine_pairOf, Machine_pair_22, nu_eq, wat_eq, bnd_iff, if_true, if_false]
theorem sp43_eq (v : Int32) (c : vmD) (Q : vmD → Prop) : Machine_savePair 43 v c Q = Q (cM (gF c 19 9 + 1) (v >>> ((8 : Int32) &&& 31)) (cM (gF c 19 9) v c)) := by
  simp (config := { decide := true }) only [Machine_savePair, Machine_savePair_28, Machine_pairOf, nu_eq, mstw_eq, bnd_iff, if_true, if_false]
theorem po1_eq (c : vmD) (Q : Int32 → vmD → Prop) : Machine_pairOf 1 c Q = Q (-1) c := by
  simp (config := { decide := true }) only [Machine_pairOf, if_true, if_false]
theorem po2_eq (c : vmD) (Q : Int32 → vmD → Prop) : Machine_pairOf 2 c Q = Q (-1) c := by
  simp (config := { decide := true }) only [Machine_pairOf, if_true, if_false]
theorem po3_eq (c : vmD) (Q : Int32 → vmD → Prop) : Machine_pairOf 3 c Q = Q (-1) c := by
  simp (config := { decide := true }) only [Machine_pairOf, if_true, if_false]
theorem po4_eq (c : vmD) (Q : Int32 → vmD → Prop) : Machine_pairOf 4 c Q = Q (-1) c := by
  simp (config := { decide := true }) only [Machine_pairOf, if_true, if_false]
theorem po5_eq (c : vmD) (Q : Int32 → vmD → Prop) : Machine_pairOf 5 c Q = Q (-1) c := by
  simp (config := { decide := true }) only [Machine_pairOf, if_true, if_false]
theorem po6_eq (c : vmD) (Q : Int32 → vmD → Prop) : Machine_pairOf 6 c Q = Q (-1) c := by
  simp (config := { decide := true }) only [Machine_pairOf, if_true, if_false]
theorem po7_eq (c : vmD) (Q : Int32 → vmD → Prop) : Machine_pairOf 7 c Q = Q (-1) c := by
  simp (config := { decide := true }) only [Machine_pairOf, if_true, if_false]
theorem po8_eq (c : vmD) (Q : Int32 → vmD → Prop) : Machine_pairOf 8 c Q = Q (-1) c := by
  simp (config := { decide := true }) only [Machine_pairOf, if_true, if_false]
theorem po17_eq (c : vmD) (Q : Int32 → vmD → Prop) : Machine_pairOf 17 c Q = Q (-1) c := by
  simp (config := { decide := true }) only [Machine_pairOf, if_true, if_false]
theorem po18_eq (c : vmD) (Q : Int32 → vmD → Prop) : Machine_pairOf 18 c Q = Q (-1) c := by
  simp (config := { decide := true }) only [Machine_pairOf, if_true, if_false]
theorem po26_eq (c : vmD) (Q : Int32 → vmD → Prop) : Machine_pairOf 26 c Q = Q (-1) c := by
  simp (config := { decide := true }) only [Machine_pairOf, if_true, if_false]
theorem po27_eq (c : vmD) (Q : Int32 → vmD → Prop) : Machine_pairOf 27 c Q = Q (-1) c := by
  simp (config := { decide := true }) only [Machine_pairOf, if_true, if_false]
theorem po29_eq (c : vmD) (Q : Int32 → vmD → Prop) : Machine_pairOf 29 c Q = Q (-1) c := by
  simp (config := { decide := true }) only [Machine_pairOf, if_true, if_false]
theorem po32_eq (c : vmD) (Q : Int32 → vmD → Prop) : Machine_pairOf 32 c Q = Q (-1) c := by
  simp (config := { decide := true }) only [Machine_pairOf, if_true, if_false]
theorem po33_eq (c : vmD) (Q : Int32 → vmD → Prop) : Machine_pairOf 33 c Q = Q (-1) c := by
  simp (config := { decide := true }) only [Machine_pairOf, if_true, if_false]
theorem po36_eq (c : vmD) (Q : Int32 → vmD → Prop) : Machine_pairOf 36 c Q = Q (-1) c := by
  simp (config := { decide := true }) only [Machine_pairOf, if_true, if_false]
theorem po37_eq (c : vmD) (Q : Int32 → vmD → Prop) : Machine_pairOf 37 c Q = Q (-1) c := by
  simp (config := { decide := true }) only [Machine_pairOf, if_true, if_false]
theorem po38_eq (c : vmD) (Q : Int32 → vmD → Prop) : Machine_pairOf 38 c Q = Q (-1) c := by
  simp (config := { decide := true }) only [Machine_pairOf, if_true, if_false]
theorem po42_eq (c : vmD) (Q : Int32 → vmD → Prop) : Machine_pairOf 42 c Q = Q (-1) c := by
  simp (config := { decide := true }) only [Machine_pairOf, if_true, if_false]
theorem po43_eq (c : vmD) (Q : Int32 → vmD → Prop) : Machine_pairOf 43 c Q = Q (-1) c := by
  simp (config := { decide := true }) only [Machine_pairOf, if_true, if_false]
theorem po0_eq (c : vmD) (Q : Int32 → vmD → Prop) : Machine_pairOf 0 c Q = Q (-1) c := by
  simp (config := { decide := true }) only [Machine_pairOf, if_true, if_false]
theorem ldm7_eq (c : vmD) (Q : Int32 → vmD → Prop) : Machine_load 7 c Q = Q (mb c (gA c 39 3)) c := by
  simp (config := { decide := true }) only [Machine_load, Machine_load_33, Machine_addressOf, di_eq, nu_eq, mat_eq, bnd_iff, if_true, if_false]
theorem svm7_eq (v : Int32) (c : vmD) (Q : vmD → Prop) : Machine_save 7 v c Q = Q (cM (gA c 39 3) (v &&& 255) c) := by
  simp (config := { decide := true }) only [Machine_save, Machine_save_70, Machine_addressOf, di_eq, nu_eq, mst_eq, bnd_iff, if_true, if_false]
theorem ldm26_eq (c : vmD) (Q : Int32 → vmD → Prop) : Machine_load 26 c Q = Q (mb c (gA c 39 1)) c := by
  simp (config := { decide := true }) only [Machine_load, Machine_load_33, Machine_addressOf, di_eq, nu_eq, mat_eq, bnd_iff, if_true, if_false]
theorem svm26_eq (v : Int32) (c : vmD) (Q : vmD → Prop) : Machine_save 26 v c Q = Q (cM (gA c 39 1) (v &&& 255) c) := by
  simp (config := { decide := true }) only [Machine_save, Machine_save_70, Machine_addressOf, di_eq, nu_eq, mst_eq, bnd_iff, if_true, if_false]
theorem ldm27_eq (c : vmD) (Q : Int32 → vmD → Prop) : Machine_load 27 c Q = Q (mb c (gA c 39 2)) c := by
  simp (config := { decide := true }) only [Machine_load, Machine_load_33, Machine_addressOf, di_eq, nu_eq, mat_eq, bnd_iff, if_true, if_false]
theorem svm27_eq (v : Int32) (c : vmD) (Q : vmD → Prop) : Machine_save 27 v c Q = Q (cM (gA c 39 2) (v &&& 255) c) := by
  simp (config := { decide := true }) only [Machine_save, Machine_save_70, Machine_addressOf, di_eq, nu_eq, mst_eq, bnd_iff, if_true, if_false]
theorem ldm32_eq (c : vmD) (Q : Int32 → vmD → Prop) : Machine_load 32 c Q = Q (mb c ((gA c 39 8 + gF c 19 8))) c := by
  simp (config := { decide := true }) only [Machine_load, Machine_load_33, Machine_addressOf, di_eq, nu_eq, mat_eq, bnd_iff, if_true, if_false]
theorem svm32_eq (v : Int32) (c : vmD) (Q : vmD → Prop) : Machine_save 32 v c Q = Q (cM ((gA c 39 8 + gF c 19 8)) (v &&& 255) c) := by
  simp (config := { decide := true }) only [Machine_save, Machine_save_70, Machine_addressOf, di_eq, nu_eq, mst_eq, bnd_iff, if_true, if_false]
theorem ldm33_eq (c : vmD) (Q : Int32 → vmD → Prop) : Machine_load 33 c Q = Q (mb c ((gA c 39 9 + gF c 19 8))) c := by
  simp (config := { decide := true }) only [Machine_load, Machine_load_33, Machine_addressOf, di_eq, nu_eq, mat_eq, bnd_iff, if_true, if_false]
theorem svm33_eq (v : Int32) (c : vmD) (Q : vmD → Prop) : Machine_save 33 v c Q = Q (cM ((gA c 39 9 + gF c 19 8)) (v &&& 255) c) := by
  simp (config := { decide := true }) only [Machine_save, Machine_save_70, Machine_addressOf, di_eq, nu_eq, mst_eq, bnd_iff, if_true, if_false]
theorem ldm43_eq (c : vmD) (Q : Int32 → vmD → Prop) : Machine_load 43 c Q = Q (mb c (gF c 19 9)) c := by
  simp (config := { decide := true }) only [Machine_load, Machine_load_33, Machine_addressOf, di_eq, nu_eq, mat_eq, bnd_iff, if_true, if_false]
theorem svm43_eq (v : Int32) (c : vmD) (Q : vmD → Prop) : Machine_save 43 v c Q = Q (cM (gF c 19 9) (v &&& 255) c) := by
  simp (config := { decide := true }) only [Machine_save, Machine_save_70, Machine_addressOf, di_eq, nu_eq, mst_eq, bnd_iff, if_true, if_false]
theorem ld36_eq (c : vmD) (Q : Int32 → vmD → Prop) : Machine_load 36 c Q = Q (gF c 19 9 &&& 255) c := by
  simp (config := { decide := true }) only [Machine_load, Machine_load_33, nu_eq, if_true, if_false]
theorem ld17_eq (c : vmD) (Q : Int32 → vmD → Prop) : Machine_load 17 c Q = Q (gA c 39 12) c := by
  simp (config := { decide := true }) only [Machine_load, Machine_load_33, bnd_iff, if_true, if_false]
theorem ld18_eq (c : vmD) (Q : Int32 → vmD → Prop) : Machine_load 18 c Q = Q (gA c 39 13) c := by
  simp (config := { decide := true }) only [Machine_load, Machine_load_33, bnd_iff, if_true, if_false]
theorem sv17_eq (v : Int32) (c : vmD) (Q : vmD → Prop) : Machine_save 17 v c Q = Q (sA c 39 12 (v &&& 255)) := by
  simp (config := { decide := true }) only [Machine_save, Machine_save_70, bnd_iff, if_true, if_false]
theorem sv18_eq (v : Int32) (c : vmD) (Q : vmD → Prop) : Machine_save 18 v c Q = Q (sA c 39 13 (v &&& 255)) := by
  simp (config := { decide := true }) only [Machine_save, Machine_save_70, bnd_iff, if_true, if_false]
theorem two0_eq (r : vmD) (Q : Int32 → vmD → Prop) : MO_two 0 r Q = Q ((gA r 65 0 <<< ((8 : Int32) &&& 31)) ||| gA r 65 1) r := by
  unfold MO_two
  rw [tA (by decide)]
  refine (propext bnd_iff).trans ?_
  rw [tA (by decide)]
  exact propext bnd_iff
theorem st0_eq (v : Int32) (r : vmD) (Q : vmD → Prop) : MO_setTwo 0 v r Q = Q (sA (sA r 65 0 ((v >>> ((8 : Int32) &&& 31)) &&& 255)) 65 1 (v &&& 255)) := by
  unfold MO_setTwo
  rw [tA (by decide)]
  refine (propext bnd_iff).trans ?_
  rw [tA (by decide)]
  exact propext bnd_iff
theorem two2_eq (r : vmD) (Q : Int32 → vmD → Prop) : MO_two 2 r Q = Q ((gA r 65 2 <<< ((8 : Int32) &&& 31)) ||| gA r 65 3) r := by
  unfold MO_two
  rw [tA (by decide)]
  refine (propext bnd_iff).trans ?_
  rw [tA (by decide)]
  exact propext bnd_iff
theorem st2_eq (v : Int32) (r : vmD) (Q : vmD → Prop) : MO_setTwo 2 v r Q = Q (sA (sA r 65 2 ((v >>> ((8 : Int32) &&& 31)) &&& 255)) 65 3 (v &&& 255)) := by
  unfold MO_setTwo
  rw [tA (by decide)]
  refine (propext bnd_iff).trans ?_
  rw [tA (by decide)]
  exact propext bnd_iff
theorem two4_eq (r : vmD) (Q : Int32 → vmD → Prop) : MO_two 4 r Q = Q ((gA r 65 4 <<< ((8 : Int32) &&& 31)) ||| gA r 65 5) r := by
  unfold MO_two
  rw [tA (by decide)]
  refine (propext bnd_iff).trans ?_
  rw [tA (by decide)]
  exact propext bnd_iff
theorem st4_eq (v : Int32) (r : vmD) (Q : vmD → Prop) : MO_setTwo 4 v r Q = Q (sA (sA r 65 4 ((v >>> ((8 : Int32) &&& 31)) &&& 255)) 65 5 (v &&& 255)) := by
  unfold MO_setTwo
  rw [tA (by decide)]
  refine (propext bnd_iff).trans ?_
  rw [tA (by decide)]
  exact propext bnd_iff
theorem goOn_eq (n : Int32) (r : vmD) (Q : vmD → Prop) : MO_goOn n r Q = Q (sF r 42 73 ((gF r 42 73 &&& 128) ||| ((gF r 42 73 + n) &&& 127))) := propext bnd_iff
theorem popTwo_eq (r : vmD) (Q : Int32 → vmD → Prop) : MO_popTwo r Q = Q (rw2 r (gF r 42 75)) (sF r 42 75 ((gF r 42 75 + 2) &&& 65535)) := by
  unfold MO_popTwo
  rw [wide_eq]
  exact propext bnd_iff
theorem pop_eq (c : vmD) (Q : Int32 → vmD → Prop) : Machine_pop c Q = Q (mw c (gA c 39 10)) (sA c 39 10 ((gA c 39 10 + 2) &&& 65535)) := by
  unfold Machine_pop
  refine (propext bnd_iff).trans ?_
  rw [wat_eq]
  exact (propext bnd_iff).trans (propext bnd_iff)
def cPush (v : Int32) (c : vmD) : vmD := cM (((gA c 39 10 - 2) &&& 65535) + 1) (v >>> ((8 : Int32) &&& 31)) (cM ((gA c 39 10 - 2) &&& 65535) v (sA c 39 10 ((gA c 39 10 - 2) &&& 65535)))
def rPush (v : Int32) (r : vmD) : vmD := rMm (((gF r 42 75 - 2) &&& 65535) + 1) (v >>> ((8 : Int32) &&& 31)) (rMm ((gF r 42 75 - 2) &&& 65535) v (sF r 42 75 ((gF r 42 75 - 2) &&& 65535)))
theorem push_eq (v : Int32) (c : vmD) (Q : vmD → Prop) : Machine_push v c Q = Q (cPush v c) := by
  unfold Machine_push cPush
  simp only [bnd_iff, mstw_eq, gA_sA, u1f_eq]
theorem pushTwo_eq (v : Int32) (r : vmD) (Q : vmD → Prop) : MO_pushTwo v r Q = Q (rPush v r) := by
  unfold MO_pushTwo rPush
  simp only [bnd_iff, store_eq, gF_sF, u1f_eq]
  rfl
theorem Rel.push {c r : vmD} (h : Rel c r) (v : Int32) : Rel (cPush v c) (rPush v r) := by
  unfold cPush rPush
  rw [h.gt10.1]
  exact ((h.sg10 (wrd_and _)).mem _ _).mem _ _
theorem Rel.pop {c r : vmD} (h : Rel c r) : Rel (sA c 39 10 ((gA c 39 10 + 2) &&& 65535)) (sF r 42 75 ((gF r 42 75 + 2) &&& 65535)) ∧ mw c (gA c 39 10) = rw2 r (gF r 42 75) := by
  rw [h.gt10.1]
  exact ⟨h.sg10 (wrd_and _), mw_rw h.2.1 _⟩
