/-! Families: the blocks that compare -/
theorem k16 : ∀ n, n < 256 → ((nI n &&& 208) &&& 16) / 16 = (nI n >>> ((4 : Int32) &&& 31)) &&& 1 := by decide +kernel
set_option maxHeartbeats 4000000 in
theorem fl64 (a v x F t bc : Int32) : (((((fD a v x &&& 208) ||| (F &&& 1)) ||| 2) ||| bfV t bc) &&& 64) = if x &&& 255 = 0 then 64 else 0 := by
  unfold fD bfV sgV
  generalize x &&& 255 = z
  by_cases e : z = 0
  all_goals by_cases eb : bc = 0
  all_goals simp only [e, eb, if_true, if_false]
  all_goals apply b_ext
  all_goals intro i hi
  all_goals simp only [b_and, b_or, b_xor, b_0, l_208, l_168, l_64, l_16, l_128, l_1, l_2, l_4, l_8, b_r5 _ hi, b_sshr8 _ hi, b_l4 _ hi]
  all_goals rcases (show i = 0 ∨ i = 1 ∨ i = 2 ∨ i = 3 ∨ i = 4 ∨ i = 5 ∨ i = 6 ∨ i = 7 ∨ i = 8 ∨ i = 9 ∨ i = 10 ∨ i = 11 ∨ i = 12 ∨ i = 13 ∨ i = 14 ∨ i = 15 ∨ i = 16 ∨ i = 17 ∨ i = 18 ∨ i = 19 ∨ i = 20 ∨ i = 21 ∨ i = 22 ∨ i = 23 ∨ i = 24 ∨ i = 25 ∨ i = 26 ∨ i = 27 ∨ i = 28 ∨ i = 29 ∨ i = 30 ∨ i = 31 by omega) with rfl | rfl | rfl | rfl | rfl | rfl | rfl | rfl | rfl | rfl | rfl | rfl | rfl | rfl | rfl | rfl | rfl | rfl | rfl | rfl | rfl | rfl | rfl | rfl | rfl | rfl | rfl | rfl | rfl | rfl | rfl | rfl
  all_goals simp
theorem or_cp (K c1 a b p : Int32) : ((((K ||| 2) ||| c1) ||| p) ||| a) ||| b = ((K ||| c1) ||| 2) ||| ((a ||| b) ||| p) := by
  apply b_ext
  intro i hi
  simp only [b_or]
  cases bt K i <;> cases bt c1 i <;> cases bt (2 : Int32) i <;> cases bt a i <;> cases bt b i <;> cases bt p i <;> rfl
theorem ex_cpx {c r : vmD} (h : Rel c r) {y : Nat} (h4 : 4 ≤ y) (hy : y < 8) (h59 : gF r 42 59 = 2) (h61 : gF r 42 61 = nI (64 * 2 + 8 * y + 1)) (x : Int32) (hx : wrd x) : ExOk (nI (83 + 4 * (y - 4) + 1)) 0 0 x c r := by
  have hfd : oct (fD (gA r 65 7) (rb r (gA c 39 3)) (((gA r 65 7) - (rb r (gA c 39 3))) - 0)) := oct_fD _ _ _
  have h1 : Rel (cO 6 (fD (gA r 65 7) (rb r (gA c 39 3)) (((gA r 65 7) - (rb r (gA c 39 3))) - 0)) c) (sA r 65 6 (fD (gA r 65 7) (rb r (gA c 39 3)) (((gA r 65 7) - (rb r (gA c 39 3))) - 0))) := h.oct6 hfd
  have h2 : Rel (sA (cO 6 (fD (gA r 65 7) (rb r (gA c 39 3)) (((gA r 65 7) - (rb r (gA c 39 3))) - 0)) c) 39 3 (((gA c 39 3) + byV y) &&& 65535)) (rP 0 2 ((gA c 39 3) + byV y) (sA r 65 6 (fD (gA r 65 7) (rb r (gA c 39 3)) (((gA r 65 7) - (rb r (gA c 39 3))) - 0)))) := h1.sP (ix := 0) (p := 2) (by omega) (by omega) _
  have h3 : Rel (sA (sA (cO 6 (fD (gA r 65 7) (rb r (gA c 39 3)) (((gA r 65 7) - (rb r (gA c 39 3))) - 0)) c) 39 3 (((gA c 39 3) + byV y) &&& 65535)) 39 1 (((gA c 39 1) + (-1)) &&& 65535)) (rP 0 0 ((gA c 39 1) + (-1)) (rP 0 2 ((gA c 39 3) + byV y) (sA r 65 6 (fD (gA r 65 7) (rb r (gA c 39 3)) (((gA r 65 7) - (rb r (gA c 39 3))) - 0))))) := h2.sP (ix := 0) (p := 0) (by omega) (by omega) _
  have hf : oct (((((fD (gA r 65 7) (rb r (gA c 39 3)) (((gA r 65 7) - (rb r (gA c 39 3))) - 0)) &&& 208) ||| (gA r 65 6 &&& 1)) ||| 2) ||| bfV (((((gA r 65 7) - (rb r (gA c 39 3))) - 0) &&& 255) - (((fD (gA r 65 7) (rb r (gA c 39 3)) (((gA r 65 7) - (rb r (gA c 39 3))) - 0)) >>> ((4 : Int32) &&& 31)) &&& 1)) (((gA c 39 1) + (-1)) &&& 65535)) := oct_or (oct_or (oct_or (oct_andl _ hfd) (oct_andl _ (h.o65 (k := 6) (by omega)))) (show oct 2 from oct_lit (n := 2) (by omega))) (bf_oct _ _)
  have h5 := h3.oct6 hf
  have h6 := fl64 (gA r 65 7) (rb r (gA c 39 3)) (((gA r 65 7) - (rb r (gA c 39 3))) - 0) (gA r 65 6) (((((gA r 65 7) - (rb r (gA c 39 3))) - 0) &&& 255) - (((fD (gA r 65 7) (rb r (gA c 39 3)) (((gA r 65 7) - (rb r (gA c 39 3))) - 0)) >>> ((4 : Int32) &&& 31)) &&& 1)) (((gA c 39 1) + (-1)) &&& 65535)
  have hk : ((((fD (gA r 65 7) (rb r (gA c 39 3)) (((gA r 65 7) - (rb r (gA c 39 3))) - 0)) &&& 208) &&& 16) / 16) = (((fD (gA r 65 7) (rb r (gA c 39 3)) (((gA r 65 7) - (rb r (gA c 39 3))) - 0)) >>> ((4 : Int32) &&& 31)) &&& 1) := by
    obtain ⟨n, hn, e⟩ := hfd
    rw [e]
    exact k16 n hn
  have k6 : gA (rP 0 0 ((gA c 39 1) + (-1)) (rP 0 2 ((gA c 39 3) + byV y) (sA r 65 6 (fD (gA r 65 7) (rb r (gA c 39 3)) (((gA r 65 7) - (rb r (gA c 39 3))) - 0))))) 65 6 = (fD (gA r 65 7) (rb r (gA c 39 3)) (((gA r 65 7) - (rb r (gA c 39 3))) - 0)) := by
    show gA (sA (sA (sA (sA (sA r 65 6 _) 65 4 _) 65 5 _) 65 0 _) 65 1 _) 65 6 = _
    simp only [gA_sA, gA_sA_ne, gA_sF, gA_sG, gA_sL, gF_sA, gF_sF, gF_sF_ne, gF_sG, gF_sL, gG_sA, gG_sF, gG_sL, gG_sGe, gG_sG_ne, gL_sA, gL_sF, gL_sG, gL_sLe, gL_sL_ne, u1f_eq, u1f_ne, bnd_iff, not_false_eq_true, Nat.reduceEqDiff]
  have c1 : gA (sA (sA (cO 6 (fD (gA r 65 7) (rb r (gA c 39 3)) (((gA r 65 7) - (rb r (gA c 39 3))) - 0)) c) 39 3 (((gA c 39 3) + byV y) &&& 65535)) 39 1 (((gA c 39 1) + (-1)) &&& 65535)) 39 1 = (((gA c 39 1) + (-1)) &&& 65535) := by
    rw [gA_sA, u1f_eq]
  have g3 : gA (cO 6 (fD (gA r 65 7) (rb r (gA c 39 3)) (((gA r 65 7) - (rb r (gA c 39 3))) - 0)) c) 39 3 = (gA c 39 3) := by
    show gA (sA c 39 0 _) 39 3 = _
    rw [gA_sA, u1f_ne _ _ (by decide)]
  have g1 : gA (sA (cO 6 (fD (gA r 65 7) (rb r (gA c 39 3)) (((gA r 65 7) - (rb r (gA c 39 3))) - 0)) c) 39 3 (((gA c 39 3) + byV y) &&& 65535)) 39 1 = (gA c 39 1) := by
    rw [gA_sA, u1f_ne _ _ (by decide)]
    show gA (sA c 39 0 _) 39 1 = _
    rw [gA_sA, u1f_ne _ _ (by decide)]
  have c1' : gA (cO 6 (((((fD (gA r 65 7) (rb r (gA c 39 3)) (((gA r 65 7) - (rb r (gA c 39 3))) - 0)) &&& 208) ||| (gA r 65 6 &&& 1)) ||| 2) ||| bfV (((((gA r 65 7) - (rb r (gA c 39 3))) - 0) &&& 255) - (((fD (gA r 65 7) (rb r (gA c 39 3)) (((gA r 65 7) - (rb r (gA c 39 3))) - 0)) >>> ((4 : Int32) &&& 31)) &&& 1)) (((gA c 39 1) + (-1)) &&& 65535)) (sA (sA (cO 6 (fD (gA r 65 7) (rb r (gA c 39 3)) (((gA r 65 7) - (rb r (gA c 39 3))) - 0)) c) 39 3 (((gA c 39 3) + byV y) &&& 65535)) 39 1 (((gA c 39 1) + (-1)) &&& 65535))) 39 1 = (((gA c 39 1) + (-1)) &&& 65535) := by
    show gA (sA _ 39 0 _) 39 1 = _
    rw [gA_sA, u1f_ne _ _ (by decide)]
    exact c1
  have hB := h5.gt1.1
  have r6 : gA (sA (rP 0 0 ((gA c 39 1) + (-1)) (rP 0 2 ((gA c 39 3) + byV y) (sA r 65 6 (fD (gA r 65 7) (rb r (gA c 39 3)) (((gA r 65 7) - (rb r (gA c 39 3))) - 0))))) 65 6 (((((fD (gA r 65 7) (rb r (gA c 39 3)) (((gA r 65 7) - (rb r (gA c 39 3))) - 0)) &&& 208) ||| (gA r 65 6 &&& 1)) ||| 2) ||| bfV (((((gA r 65 7) - (rb r (gA c 39 3))) - 0) &&& 255) - (((fD (gA r 65 7) (rb r (gA c 39 3)) (((gA r 65 7) - (rb r (gA c 39 3))) - 0)) >>> ((4 : Int32) &&& 31)) &&& 1)) (((gA c 39 1) + (-1)) &&& 65535))) 65 6 = (((((fD (gA r 65 7) (rb r (gA c 39 3)) (((gA r 65 7) - (rb r (gA c 39 3))) - 0)) &&& 208) ||| (gA r 65 6 &&& 1)) ||| 2) ||| bfV (((((gA r 65 7) - (rb r (gA c 39 3))) - 0) &&& 255) - (((fD (gA r 65 7) (rb r (gA c 39 3)) (((gA r 65 7) - (rb r (gA c 39 3))) - 0)) >>> ((4 : Int32) &&& 31)) &&& 1)) (((gA c 39 1) + (-1)) &&& 65535)) := by rw [gA_sA, u1f_eq]
  have hC : ∀ Q : vmD → Prop, Machine_execute (nI (83 + 4 * (y - 4) + 1)) 0 0 x c Q = Machine_handleBlock_62 (nI (y - 4)) x (if (((gA c 39 1) + (-1)) &&& 65535) = 0 then (0 : Int32) else if ((((gA r 65 7) - (rb r (gA c 39 3))) - 0) &&& 255) = 0 then 0 else 1) (cO 6 (((((fD (gA r 65 7) (rb r (gA c 39 3)) (((gA r 65 7) - (rb r (gA c 39 3))) - 0)) &&& 208) ||| (gA r 65 6 &&& 1)) ||| 2) ||| bfV (((((gA r 65 7) - (rb r (gA c 39 3))) - 0) &&& 255) - (((fD (gA r 65 7) (rb r (gA c 39 3)) (((gA r 65 7) - (rb r (gA c 39 3))) - 0)) >>> ((4 : Int32) &&& 31)) &&& 1)) (((gA c 39 1) + (-1)) &&& 65535)) (sA (sA (cO 6 (fD (gA r 65 7) (rb r (gA c 39 3)) (((gA r 65 7) - (rb r (gA c 39 3))) - 0)) c) 39 3 (((gA c 39 3) + byV y) &&& 65535)) 39 1 (((gA c 39 1) + (-1)) &&& 65535))) Q := by
    intro Q
    rw [exblk y 1 h4 hy (by omega)]
    unfold Machine_handleBlock_11
    rw [if_neg (by decide), if_pos (by decide)]
    unfold Machine_compareBlock
    simp only [bnd_iff, mat_eq, mb_rb h.2.1]
    rw [h.fl_eq, h.ld7, dif_eq, mo3_eq, g3, mo1_eq, g1, h3.fl_eq, k6, hk, bf_eq, c1, sfl_eq, hf.and, c1']
    split
    · rfl
    · split <;> rfl
  have hR : ∀ Q : vmD → Prop, dispR x r Q = MO_doBlock_504 (nI y) x (if (((gA c 39 1) + (-1)) &&& 65535) = 0 then (0 : Int32) else if ((((gA r 65 7) - (rb r (gA c 39 3))) - 0) &&& 255) = 0 then 0 else 1) (sA (rP 0 0 ((gA c 39 1) + (-1)) (rP 0 2 ((gA c 39 3) + byV y) (sA r 65 6 (fD (gA r 65 7) (rb r (gA c 39 3)) (((gA r 65 7) - (rb r (gA c 39 3))) - 0))))) 65 6 (((((fD (gA r 65 7) (rb r (gA c 39 3)) (((gA r 65 7) - (rb r (gA c 39 3))) - 0)) &&& 208) ||| (gA r 65 6 &&& 1)) ||| 2) ||| bfV (((((gA r 65 7) - (rb r (gA c 39 3))) - 0) &&& 255) - (((fD (gA r 65 7) (rb r (gA c 39 3)) (((gA r 65 7) - (rb r (gA c 39 3))) - 0)) >>> ((4 : Int32) &&& 31)) &&& 1)) (((gA c 39 1) + (-1)) &&& 65535))) Q := by
    intro Q
    rw [d237b_eq hy (by omega) h59 h61]
    unfold MO_doBlock_11
    rw [two4_eq, ← h.gt3.1, if_neg (by decide), if_pos (by decide), peek_eq]
    simp only [bnd_iff]
    rw [rdif_eq, rst4_eq, two0_eq, ← h2.gt1.1, g1, Int32.sub_eq_add_neg (gA c 39 1), rst0_eq, k6, two0_eq, ← h3.gt1.1, c1]
    unfold MO_doBlock_289 MO_doBlock_329 MO_doBlock_330
    simp only [bnd_iff, show (Int32.toNatClampNeg 6) = 6 from rfl]
    rw [show (ixOk (6 : Int32) 8) = True from propext ⟨fun _ => trivial, fun _ => by decide⟩]
    simp only [true_and]
    by_cases e : (((gA c 39 1) + (-1)) &&& 65535) = 0
    · have hfe : ((((((fD (gA r 65 7) (rb r (gA c 39 3)) (((gA r 65 7) - (rb r (gA c 39 3))) - 0)) &&& 208) ||| 2) ||| (gA r 65 6 &&& 1)) ||| 0) ||| ((((((gA r 65 7) - (rb r (gA c 39 3))) - 0) &&& 255) - (((fD (gA r 65 7) (rb r (gA c 39 3)) (((gA r 65 7) - (rb r (gA c 39 3))) - 0)) >>> ((4 : Int32) &&& 31)) &&& 1)) &&& 8)) ||| (((((((gA r 65 7) - (rb r (gA c 39 3))) - 0) &&& 255) - (((fD (gA r 65 7) (rb r (gA c 39 3)) (((gA r 65 7) - (rb r (gA c 39 3))) - 0)) >>> ((4 : Int32) &&& 31)) &&& 1)) &&& 2) <<< ((4 : Int32) &&& 31)) = (((((fD (gA r 65 7) (rb r (gA c 39 3)) (((gA r 65 7) - (rb r (gA c 39 3))) - 0)) &&& 208) ||| (gA r 65 6 &&& 1)) ||| 2) ||| bfV (((((gA r 65 7) - (rb r (gA c 39 3))) - 0) &&& 255) - (((fD (gA r 65 7) (rb r (gA c 39 3)) (((gA r 65 7) - (rb r (gA c 39 3))) - 0)) >>> ((4 : Int32) &&& 31)) &&& 1)) (((gA c 39 1) + (-1)) &&& 65535)) := by
        unfold bfV
        rw [if_pos e]
        exact or_cp _ _ _ _ _
      rw [if_pos e, if_pos e, hfe, two0_eq, ← hB, c1', if_pos e]
    · have hfe : ((((((fD (gA r 65 7) (rb r (gA c 39 3)) (((gA r 65 7) - (rb r (gA c 39 3))) - 0)) &&& 208) ||| 2) ||| (gA r 65 6 &&& 1)) ||| 4) ||| ((((((gA r 65 7) - (rb r (gA c 39 3))) - 0) &&& 255) - (((fD (gA r 65 7) (rb r (gA c 39 3)) (((gA r 65 7) - (rb r (gA c 39 3))) - 0)) >>> ((4 : Int32) &&& 31)) &&& 1)) &&& 8)) ||| (((((((gA r 65 7) - (rb r (gA c 39 3))) - 0) &&& 255) - (((fD (gA r 65 7) (rb r (gA c 39 3)) (((gA r 65 7) - (rb r (gA c 39 3))) - 0)) >>> ((4 : Int32) &&& 31)) &&& 1)) &&& 2) <<< ((4 : Int32) &&& 31)) = (((((fD (gA r 65 7) (rb r (gA c 39 3)) (((gA r 65 7) - (rb r (gA c 39 3))) - 0)) &&& 208) ||| (gA r 65 6 &&& 1)) ||| 2) ||| bfV (((((gA r 65 7) - (rb r (gA c 39 3))) - 0) &&& 255) - (((fD (gA r 65 7) (rb r (gA c 39 3)) (((gA r 65 7) - (rb r (gA c 39 3))) - 0)) >>> ((4 : Int32) &&& 31)) &&& 1)) (((gA c 39 1) + (-1)) &&& 65535)) := by
        unfold bfV
        rw [if_neg e]
        exact or_cp _ _ _ _ _
      rw [if_neg e, if_neg e, hfe, two0_eq, ← hB, c1', if_neg e, r6, h6]
      by_cases e2 : ((((gA r 65 7) - (rb r (gA c 39 3))) - 0) &&& 255) = 0
      · rw [if_pos e2, if_pos e2, if_neg (by decide)]
      · rw [if_neg e2, if_neg e2, if_pos (by decide)]
  by_cases ec : 5 < y ∧ ¬ (if (((gA c 39 1) + (-1)) &&& 65535) = 0 then (0 : Int32) else if ((((gA r 65 7) - (rb r (gA c 39 3))) - 0) &&& 255) = 0 then 0 else 1) = 0
  · refine ⟨_, _, fun Q hQ => ?_, fun Q hQ => ?_, h5.sg11 hx⟩
    · rw [hC, hb62 _ (by omega), if_pos ⟨by omega, ec.2⟩]
      exact hQ
    · rw [hR, blk504 y hy, if_pos ec]
      exact hQ
  · refine ⟨_, _, fun Q hQ => ?_, fun Q hQ => ?_, h5⟩
    · rw [hC, hb62 _ (by omega), if_neg (fun q => ec ⟨by omega, q.2⟩)]
      exact hQ
    · rw [hR, blk504 y hy, if_neg ec]
      exact hQ
