/-! Families: RRD, RLD, and the blocks that move and compare -/
theorem rrd_id : ∀ n, n < 256 → ∀ m, m < 256 → ((((nI n <<< ((4 : Int32) &&& 31)) &&& 240) ||| (nI m >>> ((4 : Int32) &&& 31))) &&& 255) = (((nI m >>> ((4 : Int32) &&& 31)) ||| ((nI n &&& 15) <<< ((4 : Int32) &&& 31))) &&& 255) := by
  intro n hn m hm
  apply b_ext
  intro i hi
  simp only [b_and, b_or, b_255, l_240, l_15, b_l4 _ hi, b_r4 _ hi]
  rcases (show i = 0 ∨ i = 1 ∨ i = 2 ∨ i = 3 ∨ i = 4 ∨ i = 5 ∨ i = 6 ∨ i = 7 ∨ i = 8 ∨ i = 9 ∨ i = 10 ∨ i = 11 ∨ i = 12 ∨ i = 13 ∨ i = 14 ∨ i = 15 ∨ i = 16 ∨ i = 17 ∨ i = 18 ∨ i = 19 ∨ i = 20 ∨ i = 21 ∨ i = 22 ∨ i = 23 ∨ i = 24 ∨ i = 25 ∨ i = 26 ∨ i = 27 ∨ i = 28 ∨ i = 29 ∨ i = 30 ∨ i = 31 by omega) with rfl | rfl | rfl | rfl | rfl | rfl | rfl | rfl | rfl | rfl | rfl | rfl | rfl | rfl | rfl | rfl | rfl | rfl | rfl | rfl | rfl | rfl | rfl | rfl | rfl | rfl | rfl | rfl | rfl | rfl | rfl | rfl
  all_goals simp
  all_goals exact Bool.or_comm _ _
theorem r4_oct {v : Int32} (hv : oct v) : oct (v >>> ((4 : Int32) &&& 31)) := by
  obtain ⟨n, hn, rfl⟩ := hv
  rw [pk_shrN (by omega) _ 4 (by decide)]
  exact ⟨n / 2 ^ 4, by omega, rfl⟩
theorem rrd_id2 {a v : Int32} (ha : oct a) (hv : oct v) : (((a <<< ((4 : Int32) &&& 31)) &&& 240) ||| (v >>> ((4 : Int32) &&& 31))) &&& 255 = ((v >>> ((4 : Int32) &&& 31)) ||| ((a &&& 15) <<< ((4 : Int32) &&& 31))) &&& 255 := by
  obtain ⟨n, hn, rfl⟩ := ha
  obtain ⟨m, hm, rfl⟩ := hv
  exact rrd_id n hn m hm
theorem ex_rrd {c r : vmD} (h : Rel c r) (h59 : gF r 42 59 = 2) (h60 : gF r 42 60 = nI 0) (h61 : gF r 42 61 = nI (64 * 1 + 8 * 4 + 7)) (x : Int32) : ExOk 81 0 0 x c r := by
  have ha := h.o65 (k := 7) (by omega)
  have hv := rb_oct h.2.1 (gA c 39 3)
  have hN : oct (((gA r 65 7) &&& 240) ||| ((rb r (gA c 39 3)) &&& 15)) := oct_or (oct_andl _ ha) (oct_andl _ hv)
  have hf : oct (((gA r 65 6 &&& 1) ||| sgV (((gA r 65 7) &&& 240) ||| ((rb r (gA c 39 3)) &&& 15))) ||| paV (((gA r 65 7) &&& 240) ||| ((rb r (gA c 39 3)) &&& 15))) := oct_or (oct_or (oct_andl _ (h.o65 (k := 6) (by omega))) (oct_sg _)) (oct_pa _)
  have h2 := ((h.mem (gA c 39 3) ((((rb r (gA c 39 3)) >>> ((4 : Int32) &&& 31)) ||| (((gA r 65 7) &&& 15) <<< ((4 : Int32) &&& 31))) &&& 255)).oct7 hN).oct6 hf
  have e7 : gA (rMm (gA c 39 3) (((rb r (gA c 39 3)) >>> ((4 : Int32) &&& 31)) ||| (((gA r 65 7) &&& 15) <<< ((4 : Int32) &&& 31))) r) 65 7 = gA r 65 7 := by
    show gA (sA r 55 _ _) 65 7 = _
    rw [gA_sA_ne _ _ _ (by decide)]
  rw [rM_v] at h2
  refine ⟨_, _, fun Q hQ => ?_, fun Q hQ => ?_, h2⟩
  · rw [exq_eq _ _ _ _ (by decide)]
    unfold Machine_executeRest Machine_executeRest_352 Machine_turnHalves Machine_turnHalves_29 Machine_turnHalves_63
    rw [h.ld7, h.fl_eq, if_neg (by decide), if_neg (by decide), if_neg (by decide), if_neg (by decide), if_neg (by decide), if_neg (by decide), if_neg (by decide), if_neg (by decide), if_pos (by decide), if_neg (by decide), ldm7_eq, mb_rb h.2.1, if_pos (by decide)]
    simp only [bnd_iff]
    rw [if_pos (by decide), svm7_eq, sv7_eq, hN.and, sg_eq, pa_eq hN, sfl_eq, hf.and]
    rw [← rrd_id2 ha hv] at hQ
    exact hQ
  · rw [d237_eq (y := 4) (z := 7) (by omega) (by omega) (by omega) h59 h61]
    unfold MO_do237_26
    rw [h61, opx (by omega) (by omega) (by omega), if_neg (by decide), opz (by omega) (by omega) (by omega), if_neg (by decide), if_neg (by decide), if_neg (by decide), if_neg (by decide), if_neg (by decide), if_neg (by decide), if_neg (by decide)]
    unfold MO_doHalves MO_doHalves_232
    rw [if_neg (by decide), if_neg (by decide), if_neg (by decide), if_neg (by decide), two4_eq, ← h.gt3.1, peek_eq]
    simp only [bnd_iff]
    rw [if_neg (by decide), two4_eq, ← h.gt3.1, store_eq, e7]
    have e6' : ∀ v, gA (sA (rMm (gA c 39 3) (((rb r (gA c 39 3)) >>> ((4 : Int32) &&& 31)) ||| (((gA r 65 7) &&& 15) <<< ((4 : Int32) &&& 31))) r) 65 7 v) 65 6 = gA r 65 6 := fun v => by
      rw [gA_sA, u1f_ne _ _ (by decide)]
      show gA (sA r 55 _ _) 65 6 = _
      rw [gA_sA_ne _ _ _ (by decide)]
    have e7' : ∀ v, gA (sA (rMm (gA c 39 3) (((rb r (gA c 39 3)) >>> ((4 : Int32) &&& 31)) ||| (((gA r 65 7) &&& 15) <<< ((4 : Int32) &&& 31))) r) 65 7 v) 65 7 = v := fun v => by
      rw [gA_sA, u1f_eq]
    rw [e6', e7', rsg_eq, e7', rpa_eq]
    exact hQ
theorem ex_rld {c r : vmD} (h : Rel c r) (h59 : gF r 42 59 = 2) (h60 : gF r 42 60 = nI 0) (h61 : gF r 42 61 = nI (64 * 1 + 8 * 5 + 7)) (x : Int32) : ExOk 82 0 0 x c r := by
  have ha := h.o65 (k := 7) (by omega)
  have hv := rb_oct h.2.1 (gA c 39 3)
  have hN : oct (((gA r 65 7) &&& 240) ||| ((rb r (gA c 39 3)) >>> ((4 : Int32) &&& 31))) := oct_or (oct_andl _ ha) (r4_oct hv)
  have hf : oct (((gA r 65 6 &&& 1) ||| sgV (((gA r 65 7) &&& 240) ||| ((rb r (gA c 39 3)) >>> ((4 : Int32) &&& 31)))) ||| paV (((gA r 65 7) &&& 240) ||| ((rb r (gA c 39 3)) >>> ((4 : Int32) &&& 31)))) := oct_or (oct_or (oct_andl _ (h.o65 (k := 6) (by omega))) (oct_sg _)) (oct_pa _)
  have h2 := ((h.mem (gA c 39 3) ((((rb r (gA c 39 3)) <<< ((4 : Int32) &&& 31)) ||| ((gA r 65 7) &&& 15)) &&& 255)).oct7 hN).oct6 hf
  have e7 : gA (rMm (gA c 39 3) (((rb r (gA c 39 3)) <<< ((4 : Int32) &&& 31)) ||| ((gA r 65 7) &&& 15)) r) 65 7 = gA r 65 7 := by
    show gA (sA r 55 _ _) 65 7 = _
    rw [gA_sA_ne _ _ _ (by decide)]
  rw [rM_v] at h2
  refine ⟨_, _, fun Q hQ => ?_, fun Q hQ => ?_, h2⟩
  · rw [exq_eq _ _ _ _ (by decide)]
    unfold Machine_executeRest Machine_executeRest_352 Machine_turnHalves Machine_turnHalves_29 Machine_turnHalves_63
    rw [h.ld7, h.fl_eq, if_neg (by decide), if_neg (by decide), if_neg (by decide), if_neg (by decide), if_neg (by decide), if_neg (by decide), if_neg (by decide), if_neg (by decide), if_neg (by decide), if_pos (by decide), if_pos (by decide), ldm7_eq, mb_rb h.2.1, if_neg (by decide)]
    simp only [bnd_iff]
    rw [if_neg (by decide), svm7_eq, sv7_eq, hN.and, sg_eq, pa_eq hN, sfl_eq, hf.and]

    exact hQ
  · rw [d237_eq (y := 5) (z := 7) (by omega) (by omega) (by omega) h59 h61]
    unfold MO_do237_26
    rw [h61, opx (by omega) (by omega) (by omega), if_neg (by decide), opz (by omega) (by omega) (by omega), if_neg (by decide), if_neg (by decide), if_neg (by decide), if_neg (by decide), if_neg (by decide), if_neg (by decide), if_neg (by decide)]
    unfold MO_doHalves MO_doHalves_232
    rw [if_neg (by decide), if_neg (by decide), if_neg (by decide), if_neg (by decide), two4_eq, ← h.gt3.1, peek_eq]
    simp only [bnd_iff]
    rw [if_pos (by decide), two4_eq, ← h.gt3.1, store_eq, e7]
    have e6' : ∀ v, gA (sA (rMm (gA c 39 3) (((rb r (gA c 39 3)) <<< ((4 : Int32) &&& 31)) ||| ((gA r 65 7) &&& 15)) r) 65 7 v) 65 6 = gA r 65 6 := fun v => by
      rw [gA_sA, u1f_ne _ _ (by decide)]
      show gA (sA r 55 _ _) 65 6 = _
      rw [gA_sA_ne _ _ _ (by decide)]
    have e7' : ∀ v, gA (sA (rMm (gA c 39 3) (((rb r (gA c 39 3)) <<< ((4 : Int32) &&& 31)) ||| ((gA r 65 7) &&& 15)) r) 65 7 v) 65 7 = v := fun v => by
      rw [gA_sA, u1f_eq]
    rw [e6', e7', rsg_eq, e7', rpa_eq]
    exact hQ
