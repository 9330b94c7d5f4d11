/-! Families: the blocks that move and compare -/
theorem mo1_eq (b : Int32) (c : vmD) (Q : vmD → Prop) : Machine_moveOn 1 b c Q = Q (sA c 39 1 ((gA c 39 1 + b) &&& 65535)) := by
  unfold Machine_moveOn
  rw [if_neg (by decide), if_pos (by decide), tA (by decide)]
  refine (propext bnd_iff).trans ?_
  rw [tA (by decide)]
  exact propext bnd_iff
theorem mo2_eq (b : Int32) (c : vmD) (Q : vmD → Prop) : Machine_moveOn 2 b c Q = Q (sA c 39 2 ((gA c 39 2 + b) &&& 65535)) := by
  unfold Machine_moveOn
  rw [if_neg (by decide), if_pos (by decide), tA (by decide)]
  refine (propext bnd_iff).trans ?_
  rw [tA (by decide)]
  exact propext bnd_iff
theorem mo3_eq (b : Int32) (c : vmD) (Q : vmD → Prop) : Machine_moveOn 3 b c Q = Q (sA c 39 3 ((gA c 39 3 + b) &&& 65535)) := by
  unfold Machine_moveOn
  rw [if_neg (by decide), if_pos (by decide), tA (by decide)]
  refine (propext bnd_iff).trans ?_
  rw [tA (by decide)]
  exact propext bnd_iff
theorem rst0_eq (v : Int32) (r : vmD) (Q : vmD → Prop) : MO_setTwo 0 v r Q = Q (rP 0 0 v r) := by
  rw [st0_eq]
  rfl
theorem rst2_eq (v : Int32) (r : vmD) (Q : vmD → Prop) : MO_setTwo 2 v r Q = Q (rP 0 1 v r) := by
  rw [st2_eq]
  rfl
theorem rst4_eq (v : Int32) (r : vmD) (Q : vmD → Prop) : MO_setTwo 4 v r Q = Q (rP 0 2 v r) := by
  rw [st4_eq]
  rfl
def bfV (s bc : Int32) : Int32 := ((s &&& 8) ||| ((s &&& 2) <<< ((4 : Int32) &&& 31))) ||| (if bc = 0 then 0 else 4)
theorem bf_eq (s : Int32) (c : vmD) (Q : Int32 → vmD → Prop) : Machine_blockFlags s c Q = Q (bfV s (gA c 39 1)) c := by
  unfold Machine_blockFlags bfV
  simp only [bnd_iff]
  split <;> rfl
theorem s2_oct (s : Int32) : oct ((s &&& 2) <<< ((4 : Int32) &&& 31)) := by
  obtain ⟨j, hj, e⟩ := pk_andE s (m := 3) 2 rfl
  rcases (show (s &&& 2) = 0 ∨ (s &&& 2) = 2 by
    have h : (s &&& 3) &&& 2 = s &&& 2 := by
      rw [Int32.and_assoc]
      rfl
    rw [← h, e]
    rcases (show j = 0 ∨ j = 1 ∨ j = 2 ∨ j = 3 by omega) with rfl | rfl | rfl | rfl <;> decide) with e | e <;> rw [e]
  · exact oct_lit (n := 0) (by omega)
  · exact oct_lit (n := 32) (by omega)
theorem bf_oct (s bc : Int32) : oct (bfV s bc) := by
  unfold bfV
  refine oct_or (oct_or (oct_andr s (oct_lit (n := 8) (by omega))) (s2_oct s)) ?_
  split
  · exact oct_lit (n := 0) (by omega)
  · exact oct_lit (n := 4) (by omega)
theorem or_ro (F a b p : Int32) : ((F ||| p) ||| a) ||| b = F ||| ((a ||| b) ||| p) := by
  apply b_ext
  intro i hi
  simp only [b_or]
  cases bt F i <;> cases bt a i <;> cases bt b i <;> cases bt p i <;> rfl
theorem blk504 (y : Nat) (hy : y < 8) (x b : Int32) (r : vmD) (Q : vmD → Prop) : MO_doBlock_504 (nI y) x b r Q = if 5 < y ∧ ¬ b = 0 then Q (sF r 42 76 x) else Q r := by
  unfold MO_doBlock_504
  have e : (5 : Int32) < nI y ↔ 5 < y := nI_ltI (a := 5) (by omega) (by omega)
  simp only [bnd_iff, e]
  by_cases h1 : 5 < y
  · rw [if_pos h1]
    by_cases h2 : b = 0
    · rw [if_pos h2, if_neg (fun h => h.2 h2)]
    · rw [if_neg h2, if_pos ⟨h1, h2⟩]
  · rw [if_neg h1, if_neg (fun h => h1 h.1)]
theorem hb62 (w : Nat) (hw : w < 4) (x b : Int32) (c : vmD) (Q : vmD → Prop) : Machine_handleBlock_62 (nI w) x b c Q = if 1 < w ∧ ¬ b = 0 then Q (sA c 39 11 x) else Q c := by
  unfold Machine_handleBlock_62
  have e : nI w < 2 ↔ w < 2 := nI_ltI (b := 2) (by omega) (by omega)
  simp only [bnd_iff, e]
  by_cases h2 : b = 0
  · rw [if_pos h2, if_neg (fun h => h.2 h2)]
  · rw [if_neg h2]
    by_cases h1 : w < 2
    · rw [if_pos h1, if_neg (fun h => by omega)]
    · rw [if_neg h1, if_pos ⟨by omega, h2⟩]
def byV (y : Nat) : Int32 := if y % 2 = 0 then 1 else -1
theorem exblk (y z : Nat) (h4 : 4 ≤ y) (hy : y < 8) (hz : z < 4) (f e x : Int32) (c : vmD) (Q : vmD → Prop) : Machine_execute (nI (83 + 4 * (y - 4) + z)) f e x c Q = Machine_handleBlock_11 (nI z) (nI (y - 4)) x (byV y) c Q := by
  have hlt : ∀ (k : Nat), k < 2 ^ 31 → ∀ m, m < 2 ^ 31 → (nI k < nI m ↔ k < m) := fun k hk m hm => nI_ltI hk hm
  rcases (show y = 4 ∨ y = 5 ∨ y = 6 ∨ y = 7 by omega) with rfl | rfl | rfl | rfl <;> rcases (show z = 0 ∨ z = 1 ∨ z = 2 ∨ z = 3 by omega) with rfl | rfl | rfl | rfl <;> unfold byV <;> simp (config := { decide := true }) only [Machine_execute, Machine_execute_22, Machine_execute_45, Machine_execute_69, Machine_execute_90, Machine_handleBlock, if_true, if_false] <;> rfl
theorem d237b_eq {r : vmD} {y z : Nat} (hy : y < 8) (hz : z < 4) (h59 : gF r 42 59 = 2) (h61 : gF r 42 61 = nI (64 * 2 + 8 * y + z)) (x1 : Int32) (Q : vmD → Prop) : dispR x1 r Q = MO_doBlock_11 (nI y) (nI z) x1 (byV y) r Q := by
  rw [d237_eq (y := y) (z := z) (by omega) hy (by omega) h59 h61]
  unfold MO_do237_26
  rw [h61, opx (by omega) hy (by omega), if_pos (by decide), opz (by omega) hy (by omega)]
  unfold MO_doBlock
  have e2 : nI y &&& 1 = nI (y % 2) := pk_andN (by omega) (m := 1) 1 rfl
  rw [e2]
  unfold byV
  rcases (show y % 2 = 0 ∨ y % 2 = 1 by omega) with e | e <;> rw [e]
  · rw [if_pos (by decide), if_pos rfl]
  · rw [if_neg (by decide), if_neg (by decide)]
theorem ex_ldx {c r : vmD} (h : Rel c r) {y : Nat} (h4 : 4 ≤ y) (hy : y < 8) (h59 : gF r 42 59 = 2) (h61 : gF r 42 61 = nI (64 * 2 + 8 * y + 0)) (x : Int32) (hx : wrd x) : ExOk (nI (83 + 4 * (y - 4) + 0)) 0 0 x c r := by
  have h1 := h.mem (gA c 39 2) (rb r (gA c 39 3))
  have h2 : Rel (sA (cM (gA c 39 2) (rb r (gA c 39 3)) c) 39 3 ((gA c 39 3 + byV y) &&& 65535)) (rP 0 2 (gA c 39 3 + byV y) (rMm (gA c 39 2) (rb r (gA c 39 3)) r)) := h1.sP (ix := 0) (p := 2) (by omega) (by omega) (gA c 39 3 + byV y)
  have h3 : Rel (sA (sA (cM (gA c 39 2) (rb r (gA c 39 3)) c) 39 3 ((gA c 39 3 + byV y) &&& 65535)) 39 2 ((gA c 39 2 + byV y) &&& 65535)) (rP 0 1 (gA c 39 2 + byV y) (rP 0 2 (gA c 39 3 + byV y) (rMm (gA c 39 2) (rb r (gA c 39 3)) r))) := h2.sP (ix := 0) (p := 1) (by omega) (by omega) (gA c 39 2 + byV y)
  have h4' : Rel (sA (sA (sA (cM (gA c 39 2) (rb r (gA c 39 3)) c) 39 3 ((gA c 39 3 + byV y) &&& 65535)) 39 2 ((gA c 39 2 + byV y) &&& 65535)) 39 1 ((gA c 39 1 + (-1)) &&& 65535)) (rP 0 0 (gA c 39 1 + (-1)) (rP 0 1 (gA c 39 2 + byV y) (rP 0 2 (gA c 39 3 + byV y) (rMm (gA c 39 2) (rb r (gA c 39 3)) r)))) := h3.sP (ix := 0) (p := 0) (by omega) (by omega) (gA c 39 1 + (-1))
  have hf : oct ((gA r 65 6 &&& 193) ||| bfV (rb r (gA c 39 3) + gA r 65 7) ((gA c 39 1 + (-1)) &&& 65535)) := oct_or (oct_andl _ (h.o65 (k := 6) (by omega))) (bf_oct _ _)
  have h5 := h4'.oct6 hf
  have k6 : gA (rP 0 0 (gA c 39 1 + (-1)) (rP 0 1 (gA c 39 2 + byV y) (rP 0 2 (gA c 39 3 + byV y) (rMm (gA c 39 2) (rb r (gA c 39 3)) r)))) 65 6 = gA r 65 6 := by
    show gA (sA (sA (sA (sA (sA (sA (sA r 55 _ _) 65 4 _) 65 5 _) 65 2 _) 65 3 _) 65 0 _) 65 1 _) 65 6 = _
    simp only [gA_sA, gA_sA_ne, gA_sF, gA_sG, gA_sL, gF_sA, gF_sF, gF_sF_ne, gF_sG, gF_sL, gG_sA, gG_sF, gG_sL, gG_sGe, gG_sG_ne, gL_sA, gL_sF, gL_sG, gL_sLe, gL_sL_ne, u1f_eq, u1f_ne, bnd_iff, not_false_eq_true, Nat.reduceEqDiff]
  have k7 : gA (rP 0 0 (gA c 39 1 + (-1)) (rP 0 1 (gA c 39 2 + byV y) (rP 0 2 (gA c 39 3 + byV y) (rMm (gA c 39 2) (rb r (gA c 39 3)) r)))) 65 7 = gA r 65 7 := by
    show gA (sA (sA (sA (sA (sA (sA (sA r 55 _ _) 65 4 _) 65 5 _) 65 2 _) 65 3 _) 65 0 _) 65 1 _) 65 7 = _
    simp only [gA_sA, gA_sA_ne, gA_sF, gA_sG, gA_sL, gF_sA, gF_sF, gF_sF_ne, gF_sG, gF_sL, gG_sA, gG_sF, gG_sL, gG_sGe, gG_sG_ne, gL_sA, gL_sF, gL_sG, gL_sLe, gL_sL_ne, u1f_eq, u1f_ne, bnd_iff, not_false_eq_true, Nat.reduceEqDiff]
  have c3 : gA (cM (gA c 39 2) (rb r (gA c 39 3)) c) 39 = gA c 39 := gA_sA_ne _ _ _ (by decide)
  have c1 : gA (sA (sA (sA (cM (gA c 39 2) (rb r (gA c 39 3)) c) 39 3 ((gA c 39 3 + byV y) &&& 65535)) 39 2 ((gA c 39 2 + byV y) &&& 65535)) 39 1 ((gA c 39 1 + (-1)) &&& 65535)) 39 1 = (gA c 39 1 + (-1)) &&& 65535 := by
    rw [gA_sA, u1f_eq]
  have hB := h5.gt1.1
  have c1' : gA (cO 6 ((gA r 65 6 &&& 193) ||| bfV (rb r (gA c 39 3) + gA r 65 7) ((gA c 39 1 + (-1)) &&& 65535)) (sA (sA (sA (cM (gA c 39 2) (rb r (gA c 39 3)) c) 39 3 ((gA c 39 3 + byV y) &&& 65535)) 39 2 ((gA c 39 2 + byV y) &&& 65535)) 39 1 ((gA c 39 1 + (-1)) &&& 65535))) 39 1 = (gA c 39 1 + (-1)) &&& 65535 := by
    show gA (sA _ 39 0 _) 39 1 = _
    rw [gA_sA, u1f_ne _ _ (by decide)]
    exact c1
  have hC : ∀ Q : vmD → Prop, Machine_execute (nI (83 + 4 * (y - 4) + 0)) 0 0 x c Q = Machine_handleBlock_62 (nI (y - 4)) x (if (gA c 39 1 + (-1)) &&& 65535 = 0 then 0 else 1) (cO 6 ((gA r 65 6 &&& 193) ||| bfV (rb r (gA c 39 3) + gA r 65 7) ((gA c 39 1 + (-1)) &&& 65535)) (sA (sA (sA (cM (gA c 39 2) (rb r (gA c 39 3)) c) 39 3 ((gA c 39 3 + byV y) &&& 65535)) 39 2 ((gA c 39 2 + byV y) &&& 65535)) 39 1 ((gA c 39 1 + (-1)) &&& 65535))) Q := by
    intro Q
    rw [exblk y 0 h4 hy (by omega)]
    unfold Machine_handleBlock_11
    rw [if_pos (by decide)]
    unfold Machine_moveBlock
    simp only [bnd_iff, mat_eq, mb_rb h.2.1, mst_eq, mo3_eq, mo2_eq, mo1_eq]
    have g2 : gA (sA (cM (gA c 39 2) (rb r (gA c 39 3)) c) 39 3 ((gA c 39 3 + byV y) &&& 65535)) 39 2 = gA c 39 2 := by
      rw [gA_sA, u1f_ne _ _ (by decide), c3]
    have g1 : gA (sA (sA (cM (gA c 39 2) (rb r (gA c 39 3)) c) 39 3 ((gA c 39 3 + byV y) &&& 65535)) 39 2 ((gA c 39 2 + byV y) &&& 65535)) 39 1 = gA c 39 1 := by
      rw [gA_sA, u1f_ne _ _ (by decide), gA_sA, u1f_ne _ _ (by decide), c3]
    rw [c3, g2, g1]
    have f1 := h4'.fl_eq
    have f2 := h4'.ld7
    rw [k6] at f1
    rw [k7] at f2
    have f1' := fun Q => (f1 Q)
    rw [f1', f2, bf_eq, sfl_eq, c1, hf.and, c1']
    split <;> rfl
  have g2' : gA (sA (cM (gA c 39 2) (rb r (gA c 39 3)) c) 39 3 ((gA c 39 3 + byV y) &&& 65535)) 39 2 = gA c 39 2 := by
    rw [gA_sA, u1f_ne _ _ (by decide), c3]
  have g1' : gA (sA (sA (cM (gA c 39 2) (rb r (gA c 39 3)) c) 39 3 ((gA c 39 3 + byV y) &&& 65535)) 39 2 ((gA c 39 2 + byV y) &&& 65535)) 39 1 = gA c 39 1 := by
    rw [gA_sA, u1f_ne _ _ (by decide), gA_sA, u1f_ne _ _ (by decide), c3]
  have hR : ∀ Q : vmD → Prop, dispR x r Q = MO_doBlock_504 (nI y) x (if (gA c 39 1 + (-1)) &&& 65535 = 0 then 0 else 1) (sA (rP 0 0 (gA c 39 1 + (-1)) (rP 0 1 (gA c 39 2 + byV y) (rP 0 2 (gA c 39 3 + byV y) (rMm (gA c 39 2) (rb r (gA c 39 3)) r)))) 65 6 ((gA r 65 6 &&& 193) ||| bfV (rb r (gA c 39 3) + gA r 65 7) ((gA c 39 1 + (-1)) &&& 65535))) Q := by
    intro Q
    rw [d237b_eq hy (by omega) h59 h61]
    unfold MO_doBlock_11
    rw [two4_eq, ← h.gt3.1, if_pos (by decide), peek_eq, two2_eq, ← h.gt2.1, store_eq, rst4_eq, two2_eq, ← h2.gt2.1, g2', rst2_eq, two0_eq, ← h3.gt1.1, g1', Int32.sub_eq_add_neg, rst0_eq]
    simp only [bnd_iff]
    rw [k6, k7, two0_eq, ← h4'.gt1.1, c1]
    unfold MO_doBlock_148 MO_doBlock_176
    have t6 : ∀ (s : Int32) (d : vmD) (T : vmD → Prop), (ixOk (6 : Int32) 8 ∧ T (sA d 65 (Int32.toNatClampNeg 6) s)) = T (sA d 65 6 s) := fun s d T => tA (by decide)
    simp only [bnd_iff, t6, show (Int32.toNatClampNeg 6) = 6 from rfl]
    rw [show (ixOk (6 : Int32) 8) = True from propext ⟨fun _ => trivial, fun _ => by decide⟩]
    simp only [true_and]
    by_cases e : (gA c 39 1 + (-1)) &&& 65535 = 0
    · have hfe : (((gA r 65 6 &&& 193) ||| 0) ||| ((rb r (gA c 39 3) + gA r 65 7) &&& 8)) ||| (((rb r (gA c 39 3) + gA r 65 7) &&& 2) <<< ((4 : Int32) &&& 31)) = (gA r 65 6 &&& 193) ||| bfV (rb r (gA c 39 3) + gA r 65 7) ((gA c 39 1 + (-1)) &&& 65535) := by
        unfold bfV
        rw [if_pos e]
        exact or_ro _ _ _ _
      rw [if_pos e, if_pos e, hfe, two0_eq, ← hB, c1', if_pos e]
    · have hfe : (((gA r 65 6 &&& 193) ||| 4) ||| ((rb r (gA c 39 3) + gA r 65 7) &&& 8)) ||| (((rb r (gA c 39 3) + gA r 65 7) &&& 2) <<< ((4 : Int32) &&& 31)) = (gA r 65 6 &&& 193) ||| bfV (rb r (gA c 39 3) + gA r 65 7) ((gA c 39 1 + (-1)) &&& 65535) := by
        unfold bfV
        rw [if_neg e]
        exact or_ro _ _ _ _
      rw [if_neg e, if_neg e, hfe, two0_eq, ← hB, c1', if_neg e]
  by_cases ec : 5 < y ∧ ¬ (if (gA c 39 1 + (-1)) &&& 65535 = 0 then (0 : Int32) else 1) = 0
  · refine ⟨_, _, fun Q hQ => ?_, fun Q hQ => ?_, h5.sg11 hx⟩
    · rw [hC, hb62 _ (by omega), if_pos ⟨by omega, ec.2⟩]
      exact hQ
    · rw [hR, blk504 y hy, if_pos ec]
      exact hQ
  · refine ⟨_, _, fun Q hQ => ?_, fun Q hQ => ?_, h5⟩
    · rw [hC, hb62 _ (by omega), if_neg (fun q => ec ⟨by omega, q.2⟩)]
      exact hQ
    · rw [hR, blk504 y hy, if_neg ec]
      exact hQ
