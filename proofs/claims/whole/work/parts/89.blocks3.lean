/-! Families: the blocks at ports -/
theorem and_add8 (a s : Int32) : ((a &&& 255) + s) &&& 255 = (a + s) &&& 255 := by
  apply Int32.toBitVec_inj.mp
  have e : (255 : Int32).toBitVec = 255#32 := rfl
  rw [Int32.toBitVec_and, Int32.toBitVec_and, Int32.toBitVec_add, Int32.toBitVec_add, Int32.toBitVec_and, e]
  apply BitVec.eq_of_toNat_eq
  have h8 : ∀ v : BitVec 32, (v &&& 255#32).toNat = v.toNat % 256 := by
    intro v
    rw [BitVec.toNat_and]
    exact Nat.and_two_pow_sub_one_eq_mod v.toNat 8
  rw [h8, h8, BitVec.toNat_add, BitVec.toNat_add, h8]
  omega
def pfV (v k b : Int32) : Int32 := ((sgV b ||| ((v >>> ((6 : Int32) &&& 31)) &&& 2)) ||| (if (255 : Int32) < k then 17 else 0)) ||| paV ((k &&& 7) ^^^ b)
theorem pf_oct (v k b : Int32) : oct (pfV v k b) := by
  unfold pfV
  refine oct_or (oct_or (oct_or (oct_sg _) (oct_andr _ (show oct 2 from oct_lit (n := 2) (by omega)))) ?_) (oct_pa _)
  split
  · exact oct_lit (n := 17) (by omega)
  · exact oct_lit (n := 0) (by omega)
theorem pflags_eq (v k : Int32) (r : vmD) (Q : vmD → Prop) : MO_portFlags v k r Q = Q (sA r 65 6 (pfV v k (gA r 65 0))) := by
  have t6 : ∀ (s : Int32) (T : vmD → Prop), (ixOk (6 : Int32) 8 ∧ T (sA r 65 6 s)) = T (sA r 65 6 s) := fun s T => tA (by decide)
  unfold MO_portFlags MO_portFlags_36 pfV
  simp only [bnd_iff, rsg_eq, rpa_eq, show (Int32.toNatClampNeg 6) = 6 from rfl, t6]
  split <;> rfl
theorem p123_eq (v b s : Int32) (hb : oct b) (c : vmD) (Q : Int32 → vmD → Prop) : Machine_portBlock_123 v b s v c Q = Q (if b = 0 then 0 else 1) (cO 6 (pfV v (v + s) b) c) := by
  have hp : oct (((v + s) &&& 7) ^^^ b) := oct_xor (oct_andr _ (show oct 7 from oct_lit (n := 7) (by omega))) hb
  have hf := (pf_oct v (v + s) b).and
  unfold Machine_portBlock_123 Machine_portBlock_140
  simp only [bnd_iff, sg_eq, pa_eq hp, sfl_eq]
  rw [← hf]
  unfold pfV
  split <;> split <;> rfl
theorem ex_outx {c r : vmD} (h : Rel c r) {y : Nat} (h4 : 4 ≤ y) (hy : y < 8) (h59 : gF r 42 59 = 2) (h61 : gF r 42 61 = nI (64 * 2 + 8 * y + 3)) (x : Int32) (hx : wrd x) : ExOk (nI (83 + 4 * (y - 4) + 3)) 0 0 x c r := by
  have hv := rb_oct h.2.1 (gA c 39 3)
  have hc1 := h.o65 (k := 1) (by omega)
  have h1 : Rel (cO 0 ((gA r 65 0 - 1) &&& 255) c) (sA r 65 0 ((gA r 65 0 - 1) &&& 255)) := h.oct0 (oct_and _)
  have h2 : Rel (sG (sA (cO 0 ((gA r 65 0 - 1) &&& 255) c) 41 (gA r 65 1).toNatClampNeg (rb r (gA c 39 3))) 38 5 (gG (cO 0 ((gA r 65 0 - 1) &&& 255) c) 38 5 + 1)) (sG (sA (sA r 65 0 ((gA r 65 0 - 1) &&& 255)) 69 (gA r 65 1).toNatClampNeg ((rb r (gA c 39 3)) &&& 255)) 42 86 (gG (sA r 65 0 ((gA r 65 0 - 1) &&& 255)) 42 86 + 1)) := by
    have := h1.outp (gA r 65 1) hv
    rw [hc1.and] at this
    exact this
  have h3 : Rel (sA (sG (sA (cO 0 ((gA r 65 0 - 1) &&& 255) c) 41 (gA r 65 1).toNatClampNeg (rb r (gA c 39 3))) 38 5 (gG (cO 0 ((gA r 65 0 - 1) &&& 255) c) 38 5 + 1)) 39 3 (((gA c 39 3) + byV y) &&& 65535)) (rP 0 2 ((gA c 39 3) + byV y) (sG (sA (sA r 65 0 ((gA r 65 0 - 1) &&& 255)) 69 (gA r 65 1).toNatClampNeg ((rb r (gA c 39 3)) &&& 255)) 42 86 (gG (sA r 65 0 ((gA r 65 0 - 1) &&& 255)) 42 86 + 1))) := h2.sP (ix := 0) (p := 2) (by omega) (by omega) _
  have h5 : Rel (cO 6 (pfV (rb r (gA c 39 3)) ((rb r (gA c 39 3)) + gA (rP 0 2 ((gA c 39 3) + byV y) (sG (sA (sA r 65 0 ((gA r 65 0 - 1) &&& 255)) 69 (gA r 65 1).toNatClampNeg ((rb r (gA c 39 3)) &&& 255)) 42 86 (gG (sA r 65 0 ((gA r 65 0 - 1) &&& 255)) 42 86 + 1))) 65 5) ((gA r 65 0 - 1) &&& 255)) (sA (sG (sA (cO 0 ((gA r 65 0 - 1) &&& 255) c) 41 (gA r 65 1).toNatClampNeg (rb r (gA c 39 3))) 38 5 (gG (cO 0 ((gA r 65 0 - 1) &&& 255) c) 38 5 + 1)) 39 3 (((gA c 39 3) + byV y) &&& 65535))) (sA (rP 0 2 ((gA c 39 3) + byV y) (sG (sA (sA r 65 0 ((gA r 65 0 - 1) &&& 255)) 69 (gA r 65 1).toNatClampNeg ((rb r (gA c 39 3)) &&& 255)) 42 86 (gG (sA r 65 0 ((gA r 65 0 - 1) &&& 255)) 42 86 + 1))) 65 6 (pfV (rb r (gA c 39 3)) ((rb r (gA c 39 3)) + gA (rP 0 2 ((gA c 39 3) + byV y) (sG (sA (sA r 65 0 ((gA r 65 0 - 1) &&& 255)) 69 (gA r 65 1).toNatClampNeg ((rb r (gA c 39 3)) &&& 255)) 42 86 (gG (sA r 65 0 ((gA r 65 0 - 1) &&& 255)) 42 86 + 1))) 65 5) ((gA r 65 0 - 1) &&& 255))) := h3.oct6 (pf_oct _ _ _)
  have b0 : gA (sA r 65 0 ((gA r 65 0 - 1) &&& 255)) 65 0 = ((gA r 65 0 - 1) &&& 255) := by rw [gA_sA, u1f_eq]
  have b3 : gA (rP 0 2 ((gA c 39 3) + byV y) (sG (sA (sA r 65 0 ((gA r 65 0 - 1) &&& 255)) 69 (gA r 65 1).toNatClampNeg ((rb r (gA c 39 3)) &&& 255)) 42 86 (gG (sA r 65 0 ((gA r 65 0 - 1) &&& 255)) 42 86 + 1))) 65 0 = ((gA r 65 0 - 1) &&& 255) := by
    show gA (sA (sA (sG (sA (sA r 65 0 _) 69 _ _) 42 86 _) 65 4 _) 65 5 _) 65 0 = _
    simp only [gA_sA, gA_sA_ne, gA_sF, gA_sG, gA_sL, gF_sA, gF_sF, gF_sF_ne, gF_sG, gF_sL, gG_sA, gG_sF, gG_sL, gG_sGe, gG_sG_ne, gL_sA, gL_sF, gL_sG, gL_sLe, gL_sL_ne, u1f_eq, u1f_ne, bnd_iff, not_false_eq_true, Nat.reduceEqDiff]
  have g3 : gA (sG (sA (cO 0 ((gA r 65 0 - 1) &&& 255) c) 41 (gA r 65 1).toNatClampNeg (rb r (gA c 39 3))) 38 5 (gG (cO 0 ((gA r 65 0 - 1) &&& 255) c) 38 5 + 1)) 39 3 = (gA c 39 3) := by
    show gA (sG (sA (sA c 39 1 _) 41 _ _) 38 5 _) 39 3 = _
    simp only [gA_sA, gA_sA_ne, gA_sF, gA_sG, gA_sL, gF_sA, gF_sF, gF_sF_ne, gF_sG, gF_sL, gG_sA, gG_sF, gG_sL, gG_sGe, gG_sG_ne, gL_sA, gL_sF, gL_sG, gL_sLe, gL_sL_ne, u1f_eq, u1f_ne, bnd_iff, not_false_eq_true, Nat.reduceEqDiff]
  have q1 : gA (sA r 65 0 ((gA r 65 0 - 1) &&& 255)) 65 1 = gA r 65 1 := by rw [gA_sA, u1f_ne _ _ (by decide)]
  have hC : ∀ Q : vmD → Prop, Machine_execute (nI (83 + 4 * (y - 4) + 3)) 0 0 x c Q = Machine_handleBlock_62 (nI (y - 4)) x (if ((gA r 65 0 - 1) &&& 255) = 0 then (0 : Int32) else 1) (cO 6 (pfV (rb r (gA c 39 3)) ((rb r (gA c 39 3)) + gA (rP 0 2 ((gA c 39 3) + byV y) (sG (sA (sA r 65 0 ((gA r 65 0 - 1) &&& 255)) 69 (gA r 65 1).toNatClampNeg ((rb r (gA c 39 3)) &&& 255)) 42 86 (gG (sA r 65 0 ((gA r 65 0 - 1) &&& 255)) 42 86 + 1))) 65 5) ((gA r 65 0 - 1) &&& 255)) (sA (sG (sA (cO 0 ((gA r 65 0 - 1) &&& 255) c) 41 (gA r 65 1).toNatClampNeg (rb r (gA c 39 3))) 38 5 (gG (cO 0 ((gA r 65 0 - 1) &&& 255) c) 38 5 + 1)) 39 3 (((gA c 39 3) + byV y) &&& 65535))) Q := by
    intro Q
    rw [exblk y 3 h4 hy (by omega)]
    unfold Machine_handleBlock_11
    rw [if_neg (by decide), if_neg (by decide), if_pos (by decide)]
    unfold Machine_handleBlock_55 Machine_portBlock
    rw [if_neg (by decide)]
    simp only [bnd_iff, mat_eq, mb_rb h.2.1]
    unfold Machine_portBlock_35
    simp only [bnd_iff]
    rw [h.ld0, sv0_eq, h1.ld0, b0, if_neg (by decide), out_eq, h.rd1]
    unfold Machine_portBlock_91
    rw [mo3_eq, g3, if_neg (by decide), h3.ld5, p123_eq _ _ _ (oct_and _)]
  have hR : ∀ Q : vmD → Prop, dispR x r Q = MO_doBlock_504 (nI y) x (if ((gA r 65 0 - 1) &&& 255) = 0 then (0 : Int32) else 1) (sA (rP 0 2 ((gA c 39 3) + byV y) (sG (sA (sA r 65 0 ((gA r 65 0 - 1) &&& 255)) 69 (gA r 65 1).toNatClampNeg ((rb r (gA c 39 3)) &&& 255)) 42 86 (gG (sA r 65 0 ((gA r 65 0 - 1) &&& 255)) 42 86 + 1))) 65 6 (pfV (rb r (gA c 39 3)) ((rb r (gA c 39 3)) + gA (rP 0 2 ((gA c 39 3) + byV y) (sG (sA (sA r 65 0 ((gA r 65 0 - 1) &&& 255)) 69 (gA r 65 1).toNatClampNeg ((rb r (gA c 39 3)) &&& 255)) 42 86 (gG (sA r 65 0 ((gA r 65 0 - 1) &&& 255)) 42 86 + 1))) 65 5) ((gA r 65 0 - 1) &&& 255))) Q := by
    intro Q
    rw [d237b_eq hy (by omega) h59 h61]
    unfold MO_doBlock_11 MO_doBlock_502
    rw [two4_eq, ← h.gt3.1, if_neg (by decide), if_neg (by decide), if_neg (by decide), peek_eq]
    simp only [bnd_iff]
    rw [q1, rout_eq, hc1.and, rst4_eq, pflags_eq, b3]
    have b5 : gA (sA (rP 0 2 ((gA c 39 3) + byV y) (sG (sA (sA r 65 0 ((gA r 65 0 - 1) &&& 255)) 69 (gA r 65 1).toNatClampNeg ((rb r (gA c 39 3)) &&& 255)) 42 86 (gG (sA r 65 0 ((gA r 65 0 - 1) &&& 255)) 42 86 + 1))) 65 6 (pfV (rb r (gA c 39 3)) ((rb r (gA c 39 3)) + gA (rP 0 2 ((gA c 39 3) + byV y) (sG (sA (sA r 65 0 ((gA r 65 0 - 1) &&& 255)) 69 (gA r 65 1).toNatClampNeg ((rb r (gA c 39 3)) &&& 255)) 42 86 (gG (sA r 65 0 ((gA r 65 0 - 1) &&& 255)) 42 86 + 1))) 65 5) ((gA r 65 0 - 1) &&& 255))) 65 0 = ((gA r 65 0 - 1) &&& 255) := by
      rw [gA_sA, u1f_ne _ _ (by decide)]
      exact b3
    rw [b5]
    split <;> rfl
  by_cases ec : 5 < y ∧ ¬ (if ((gA r 65 0 - 1) &&& 255) = 0 then (0 : Int32) else 1) = 0
  · refine ⟨_, _, fun Q hQ => ?_, fun Q hQ => ?_, h5.sg11 hx⟩
    · rw [hC, hb62 _ (by omega), if_pos ⟨by omega, ec.2⟩]
      exact hQ
    · rw [hR, blk504 y hy, if_pos ec]
      exact hQ
  · refine ⟨_, _, fun Q hQ => ?_, fun Q hQ => ?_, h5⟩
    · rw [hC, hb62 _ (by omega), if_neg (fun q => ec ⟨by omega, q.2⟩)]
      exact hQ
    · rw [hR, blk504 y hy, if_neg ec]
      exact hQ
theorem rP2_c (w a v b : Int32) (r : vmD) : sA (rP 0 2 w (rMm a v r)) 65 0 b = rP 0 2 w (rMm a v (sA r 65 0 b)) := by
  show sA (sA (sA (sA r 55 _ _) 65 4 _) 65 5 _) 65 0 b = sA (sA (sA (sA r 65 0 b) 55 _ _) 65 4 _) 65 5 _
  rw [sA_comm _ 65 (i := 5) (j := 0) _ _ (by decide), sA_comm _ 65 (i := 4) (j := 0) _ _ (by decide), sA_sA_ne r (o := 55) (o' := 65) _ 0 _ b (by decide)]
theorem ex_inx {c r : vmD} (h : Rel c r) {y : Nat} (h4 : 4 ≤ y) (hy : y < 8) (h59 : gF r 42 59 = 2) (h61 : gF r 42 61 = nI (64 * 2 + 8 * y + 2)) (x : Int32) (hx : wrd x) : ExOk (nI (83 + 4 * (y - 4) + 2)) 0 0 x c r := by
  have hc1 := h.o65 (k := 1) (by omega)
  obtain ⟨i1, hv, i3⟩ := inp_eq h hc1
  have h1 : Rel (cO 0 ((gA r 65 0 - 1) &&& 255) c) (sA r 65 0 ((gA r 65 0 - 1) &&& 255)) := h.oct0 (oct_and _)
  have h2 : Rel (cM (gA c 39 3) (gA r 68 (gA r 65 1).toNatClampNeg) (cO 0 ((gA r 65 0 - 1) &&& 255) c)) (rMm (gA c 39 3) (gA r 68 (gA r 65 1).toNatClampNeg) (sA r 65 0 ((gA r 65 0 - 1) &&& 255))) := h1.mem _ _
  have h3 : Rel (sA (cM (gA c 39 3) (gA r 68 (gA r 65 1).toNatClampNeg) (cO 0 ((gA r 65 0 - 1) &&& 255) c)) 39 3 (((gA c 39 3) + byV y) &&& 65535)) (rP 0 2 ((gA c 39 3) + byV y) (rMm (gA c 39 3) (gA r 68 (gA r 65 1).toNatClampNeg) (sA r 65 0 ((gA r 65 0 - 1) &&& 255)))) := h2.sP (ix := 0) (p := 2) (by omega) (by omega) _
  have h5 : Rel (cO 6 (pfV (gA r 68 (gA r 65 1).toNatClampNeg) ((gA r 68 (gA r 65 1).toNatClampNeg) + ((gA r 65 1 + byV y) &&& 255)) ((gA r 65 0 - 1) &&& 255)) (sA (cM (gA c 39 3) (gA r 68 (gA r 65 1).toNatClampNeg) (cO 0 ((gA r 65 0 - 1) &&& 255) c)) 39 3 (((gA c 39 3) + byV y) &&& 65535))) (sA (rP 0 2 ((gA c 39 3) + byV y) (rMm (gA c 39 3) (gA r 68 (gA r 65 1).toNatClampNeg) (sA r 65 0 ((gA r 65 0 - 1) &&& 255)))) 65 6 (pfV (gA r 68 (gA r 65 1).toNatClampNeg) ((gA r 68 (gA r 65 1).toNatClampNeg) + ((gA r 65 1 + byV y) &&& 255)) ((gA r 65 0 - 1) &&& 255))) := h3.oct6 (pf_oct _ _ _)
  have b0 : gA (sA r 65 0 ((gA r 65 0 - 1) &&& 255)) 65 0 = ((gA r 65 0 - 1) &&& 255) := by rw [gA_sA, u1f_eq]
  have b3 : gA (rP 0 2 ((gA c 39 3) + byV y) (rMm (gA c 39 3) (gA r 68 (gA r 65 1).toNatClampNeg) (sA r 65 0 ((gA r 65 0 - 1) &&& 255)))) 65 0 = ((gA r 65 0 - 1) &&& 255) := by
    show gA (sA (sA (sA (sA r 65 0 _) 55 _ _) 65 4 _) 65 5 _) 65 0 = _
    simp only [gA_sA, gA_sA_ne, gA_sF, gA_sG, gA_sL, gF_sA, gF_sF, gF_sF_ne, gF_sG, gF_sL, gG_sA, gG_sF, gG_sL, gG_sGe, gG_sG_ne, gL_sA, gL_sF, gL_sG, gL_sLe, gL_sL_ne, u1f_eq, u1f_ne, bnd_iff, not_false_eq_true, Nat.reduceEqDiff]
  have b31 : gA (rP 0 2 ((gA c 39 3) + byV y) (rMm (gA c 39 3) (gA r 68 (gA r 65 1).toNatClampNeg) (sA r 65 0 ((gA r 65 0 - 1) &&& 255)))) 65 1 = gA r 65 1 := by
    show gA (sA (sA (sA (sA r 65 0 _) 55 _ _) 65 4 _) 65 5 _) 65 1 = _
    simp only [gA_sA, gA_sA_ne, gA_sF, gA_sG, gA_sL, gF_sA, gF_sF, gF_sF_ne, gF_sG, gF_sL, gG_sA, gG_sF, gG_sL, gG_sGe, gG_sG_ne, gL_sA, gL_sF, gL_sG, gL_sLe, gL_sL_ne, u1f_eq, u1f_ne, bnd_iff, not_false_eq_true, Nat.reduceEqDiff]
  have g1 : gA (cO 0 ((gA r 65 0 - 1) &&& 255) c) 39 3 = (gA c 39 3) := by
    show gA (sA c 39 1 _) 39 3 = _
    simp only [gA_sA, gA_sA_ne, gA_sF, gA_sG, gA_sL, gF_sA, gF_sF, gF_sF_ne, gF_sG, gF_sL, gG_sA, gG_sF, gG_sL, gG_sGe, gG_sG_ne, gL_sA, gL_sF, gL_sG, gL_sLe, gL_sL_ne, u1f_eq, u1f_ne, bnd_iff, not_false_eq_true, Nat.reduceEqDiff]
  have g3 : gA (cM (gA c 39 3) (gA r 68 (gA r 65 1).toNatClampNeg) (cO 0 ((gA r 65 0 - 1) &&& 255) c)) 39 3 = (gA c 39 3) := by
    show gA (sA (sA c 39 1 _) 2 _ _) 39 3 = _
    simp only [gA_sA, gA_sA_ne, gA_sF, gA_sG, gA_sL, gF_sA, gF_sF, gF_sF_ne, gF_sG, gF_sL, gG_sA, gG_sF, gG_sL, gG_sGe, gG_sG_ne, gL_sA, gL_sF, gL_sG, gL_sLe, gL_sL_ne, u1f_eq, u1f_ne, bnd_iff, not_false_eq_true, Nat.reduceEqDiff]
  have hk : (gA (sA (cM (gA c 39 3) (gA r 68 (gA r 65 1).toNatClampNeg) (cO 0 ((gA r 65 0 - 1) &&& 255) c)) 39 3 (((gA c 39 3) + byV y) &&& 65535)) 39 1 + byV y) &&& 255 = (gA r 65 1 + byV y) &&& 255 := by
    rw [← and_add8, h3.rd1, b31]
  have hC : ∀ Q : vmD → Prop, Machine_execute (nI (83 + 4 * (y - 4) + 2)) 0 0 x c Q = Machine_handleBlock_62 (nI (y - 4)) x (if ((gA r 65 0 - 1) &&& 255) = 0 then (0 : Int32) else 1) (cO 6 (pfV (gA r 68 (gA r 65 1).toNatClampNeg) ((gA r 68 (gA r 65 1).toNatClampNeg) + ((gA r 65 1 + byV y) &&& 255)) ((gA r 65 0 - 1) &&& 255)) (sA (cM (gA c 39 3) (gA r 68 (gA r 65 1).toNatClampNeg) (cO 0 ((gA r 65 0 - 1) &&& 255) c)) 39 3 (((gA c 39 3) + byV y) &&& 65535))) Q := by
    intro Q
    rw [exblk y 2 h4 hy (by omega)]
    unfold Machine_handleBlock_11
    rw [if_neg (by decide), if_neg (by decide), if_neg (by decide)]
    unfold Machine_handleBlock_55 Machine_portBlock
    rw [if_pos (by decide)]
    simp only [bnd_iff]
    rw [h.rd1, tA i3, i1]
    unfold Machine_portBlock_35
    simp only [bnd_iff]
    rw [h.ld0, sv0_eq, h1.ld0, b0, if_pos (by decide), g1, mst_eq]
    unfold Machine_portBlock_91
    rw [mo3_eq, g3, if_pos (by decide)]
    simp only [bnd_iff]
    rw [hk, p123_eq _ _ _ (oct_and _)]
  have hR : ∀ Q : vmD → Prop, dispR x r Q = MO_doBlock_504 (nI y) x (if ((gA r 65 0 - 1) &&& 255) = 0 then (0 : Int32) else 1) (sA (rP 0 2 ((gA c 39 3) + byV y) (rMm (gA c 39 3) (gA r 68 (gA r 65 1).toNatClampNeg) (sA r 65 0 ((gA r 65 0 - 1) &&& 255)))) 65 6 (pfV (gA r 68 (gA r 65 1).toNatClampNeg) ((gA r 68 (gA r 65 1).toNatClampNeg) + ((gA r 65 1 + byV y) &&& 255)) ((gA r 65 0 - 1) &&& 255))) Q := by
    intro Q
    rw [d237b_eq hy (by omega) h59 h61]
    unfold MO_doBlock_11 MO_doBlock_420
    rw [two4_eq, ← h.gt3.1, if_neg (by decide), if_neg (by decide), if_pos (by decide)]
    simp only [bnd_iff]
    have e0 : gA (rP 0 2 ((gA c 39 3) + byV y) (rMm (gA c 39 3) (gA r 68 (gA r 65 1).toNatClampNeg) r)) 65 0 = gA r 65 0 := by
      show gA (sA (sA (sA r 55 _ _) 65 4 _) 65 5 _) 65 0 = _
      simp only [gA_sA, gA_sA_ne, gA_sF, gA_sG, gA_sL, gF_sA, gF_sF, gF_sF_ne, gF_sG, gF_sL, gG_sA, gG_sF, gG_sL, gG_sGe, gG_sG_ne, gL_sA, gL_sF, gL_sG, gL_sLe, gL_sL_ne, u1f_eq, u1f_ne, bnd_iff, not_false_eq_true, Nat.reduceEqDiff]
    rw [tA i3, store_eq, rst4_eq, e0, rP2_c, b31, pflags_eq, b3]
    have b5 : gA (sA (rP 0 2 ((gA c 39 3) + byV y) (rMm (gA c 39 3) (gA r 68 (gA r 65 1).toNatClampNeg) (sA r 65 0 ((gA r 65 0 - 1) &&& 255)))) 65 6 (pfV (gA r 68 (gA r 65 1).toNatClampNeg) ((gA r 68 (gA r 65 1).toNatClampNeg) + ((gA r 65 1 + byV y) &&& 255)) ((gA r 65 0 - 1) &&& 255))) 65 0 = ((gA r 65 0 - 1) &&& 255) := by
      rw [gA_sA, u1f_ne _ _ (by decide)]
      exact b3
    rw [b5]
    split <;> rfl
  by_cases ec : 5 < y ∧ ¬ (if ((gA r 65 0 - 1) &&& 255) = 0 then (0 : Int32) else 1) = 0
  · refine ⟨_, _, fun Q hQ => ?_, fun Q hQ => ?_, h5.sg11 hx⟩
    · rw [hC, hb62 _ (by omega), if_pos ⟨by omega, ec.2⟩]
      exact hQ
    · rw [hR, blk504 y hy, if_pos ec]
      exact hQ
  · refine ⟨_, _, fun Q hQ => ?_, fun Q hQ => ?_, h5⟩
    · rw [hC, hb62 _ (by omega), if_neg (fun q => ec ⟨by omega, q.2⟩)]
      exact hQ
    · rw [hR, blk504 y hy, if_neg ec]
      exact hQ
