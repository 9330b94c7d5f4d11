/-! The machines' small pieces, as equations: memory, registers, pairs -/
theorem tA {p q : Prop} (h : p) : (p ∧ q) = q := propext ⟨fun x => x.2, fun x => ⟨h, x⟩⟩
def mb (c : vmD) (x : Int32) : Int32 := gA c 2 (x &&& 65535).toNatClampNeg &&& 255
def rb (r : vmD) (x : Int32) : Int32 := gA r 55 (x &&& 65535).toNatClampNeg
theorem mat_eq (x : Int32) (c : vmD) (Q : Int32 → vmD → Prop) : Memory_at x c Q = Q (mb c x) c := by
  unfold Memory_at
  rw [tA (ix_and65535 x)]
  exact propext bnd_iff
theorem peek_eq (x : Int32) (r : vmD) (Q : Int32 → vmD → Prop) : MO_peek x r Q = Q (rb r x) r := by
  unfold MO_peek
  rw [tA (ix_and65535 x)]
  exact propext bnd_iff
theorem mb_rb {c r : vmD} (h : RMem (gA c 2) (gA r 55)) (x : Int32) : mb c x = rb r x := by
  obtain ⟨j, hj, e⟩ := wrd_and x
  unfold mb rb
  rw [e, nI_clamp (by omega)]
  exact (h j hj).symm
theorem rb_oct {c r : vmD} (h : RMem (gA c 2) (gA r 55)) (x : Int32) : oct (rb r x) := by
  rw [← mb_rb h]
  exact oct_and _
def mw (c : vmD) (x : Int32) : Int32 := mb c x ||| (mb c (x + 1) <<< ((8 : Int32) &&& 31))
def rw2 (r : vmD) (x : Int32) : Int32 := rb r x ||| (rb r (x + 1) <<< ((8 : Int32) &&& 31))
theorem wat_eq (x : Int32) (c : vmD) (Q : Int32 → vmD → Prop) : Memory_wordAt x c Q = Q (mw c x) c := by
  unfold Memory_wordAt
  rw [mat_eq, mat_eq]
  rfl
theorem wide_eq (x : Int32) (c : vmD) (Q : Int32 → vmD → Prop) : MO_wide x c Q = Q (rw2 c x) c := by
  unfold MO_wide
  rw [peek_eq, peek_eq]
  rfl
theorem mw_rw {c r : vmD} (h : RMem (gA c 2) (gA r 55)) (x : Int32) : mw c x = rw2 r x := by
  unfold mw rw2
  rw [mb_rb h, mb_rb h]
theorem nI_or8' {a b : Nat} (ha : a < 256) (hb : b < 256) : nI a ||| (nI b <<< ((8 : Int32) &&& 31)) = nI (b * 256 + a) := by
  rw [shl8 (by omega), Int32.or_comm, nx_or8 ha]
theorem rw_wrd {c r : vmD} (h : RMem (gA c 2) (gA r 55)) (x : Int32) : wrd (rw2 r x) := by
  obtain ⟨a, ha, e⟩ := rb_oct h x
  obtain ⟨b, hb, e2⟩ := rb_oct h (x + 1)
  unfold rw2
  rw [e, e2, nI_or8' ha hb]
  exact ⟨b * 256 + a, by omega, rfl⟩
/-- storing -/
def cM (x v : Int32) (c : vmD) : vmD := sA c 2 (x &&& 65535).toNatClampNeg ((Int8.toInt32 (Int32.toInt8 v)).toInt8.toInt32)
def rMm (x v : Int32) (r : vmD) : vmD := sA r 55 (x &&& 65535).toNatClampNeg (v &&& 255)
theorem mst_eq (x v : Int32) (c : vmD) (Q : vmD → Prop) : Memory_store x v c Q = Q (cM x v c) := by
  unfold Memory_store
  rw [tA (ix_and65535 x)]
  exact propext bnd_iff
theorem store_eq (x v : Int32) (r : vmD) (Q : vmD → Prop) : MO_store x v r Q = Q (rMm x v r) := by
  unfold MO_store
  rw [tA (ix_and65535 x)]
  exact propext bnd_iff
theorem mstw_eq (x v : Int32) (c : vmD) (Q : vmD → Prop) : Memory_storeWord x v c Q = Q (cM (x + 1) (v >>> ((8 : Int32) &&& 31)) (cM x v c)) := by
  unfold Memory_storeWord
  rw [mst_eq, mst_eq]
/-! the pieces of Rel behind writing -/
theorem Rel.mem {c r : vmD} (h : Rel c r) (x v : Int32) : Rel (cM x v c) (rMm x v r) := by
  obtain ⟨q1, q2, q3, q4, q5, q6, q7, q8, q9⟩ := h
  unfold Rel RTold RReg RReq cM rMm
  simp only [gA_sA, gA_sA_ne, gA_sF, gA_sG, gA_sL, gF_sA, gF_sF, gF_sF_ne, gF_sG, gF_sL, gG_sA, gG_sF, gG_sL, gG_sGe, gG_sG_ne, gL_sA, gL_sF, gL_sG, gL_sLe, gL_sL_ne, u1f_eq, u1f_ne, bnd_iff, not_false_eq_true, Nat.reduceEqDiff]
  exact ⟨q1, q2.put _ _ (bp_b2 v), q3, q4, q5, q6, q7, q8, q9⟩
def cO (y : Nat) (v : Int32) (c : vmD) : vmD := bif Nat.beq y 0 then sA c 39 1 ((v <<< ((8 : Int32) &&& 31)) ||| (gA c 39 1 &&& 255)) else bif Nat.beq y 1 then sA c 39 1 ((gA c 39 1 &&& 65280) ||| v) else bif Nat.beq y 2 then sA c 39 2 ((v <<< ((8 : Int32) &&& 31)) ||| (gA c 39 2 &&& 255)) else bif Nat.beq y 3 then sA c 39 2 ((gA c 39 2 &&& 65280) ||| v) else bif Nat.beq y 4 then sA c 39 3 ((v <<< ((8 : Int32) &&& 31)) ||| (gA c 39 3 &&& 255)) else bif Nat.beq y 5 then sA c 39 3 ((gA c 39 3 &&& 65280) ||| v) else bif Nat.beq y 7 then sA c 39 0 ((v <<< ((8 : Int32) &&& 31)) ||| (gA c 39 0 &&& 255)) else sA c 39 0 ((gA c 39 0 &&& 65280) ||| v)
theorem pw {a b : Int32} (ha : oct a) (hb : oct b) : ((a <<< ((8 : Int32) &&& 31)) ||| b) &&& 255 = b ∧ (((a <<< ((8 : Int32) &&& 31)) ||| b) >>> ((8 : Int32) &&& 31)) &&& 255 = a ∧ (((a <<< ((8 : Int32) &&& 31)) ||| b) >>> ((8 : Int32) &&& 31)) = a ∧ wrd ((a <<< ((8 : Int32) &&& 31)) ||| b) ∧ (∀ v, (((a <<< ((8 : Int32) &&& 31)) ||| b) &&& 65280) ||| v = (a <<< ((8 : Int32) &&& 31)) ||| v) ∧ (((a <<< ((8 : Int32) &&& 31)) ||| b) >>> ((0 : Int32) &&& 31)) = ((a <<< ((8 : Int32) &&& 31)) ||| b) := by
  obtain ⟨i, hi, rfl⟩ := ha
  obtain ⟨j, hj, rfl⟩ := hb
  rw [shl8 (by omega), nx_or8 hj, and255 (by omega), shr8 (by omega), and255 (by omega)]
  refine ⟨congrArg nI (by omega), congrArg nI (by omega), congrArg nI (by omega), ⟨i * 256 + j, by omega, rfl⟩, fun v => ?_, ?_⟩
  · congr 1
    show nI (i * 256 + j) &&& nI 65280 = nI (i * 256)
    rw [nx_and]
    congr 1
    have e : i * 256 + j = (i <<< 8) ||| j := by rw [← Nat.shiftLeft_add_eq_or_of_lt (by omega : j < 2 ^ 8), Nat.shiftLeft_eq]
    rw [e, show i * 256 = i <<< 8 by rw [Nat.shiftLeft_eq]]
    apply Nat.eq_of_testBit_eq
    intro k
    rw [Nat.testBit_and, Nat.testBit_or, Nat.testBit_shiftLeft]
    rcases Nat.lt_or_ge k 16 with hk | hk
    · rcases Nat.lt_or_ge k 8 with hk2 | hk2
      · rw [show Nat.testBit 65280 k = false from (by decide +kernel : ∀ k, k < 8 → Nat.testBit 65280 k = false) k hk2]
        simp [Nat.not_le.mpr hk2]
      · rw [show Nat.testBit 65280 k = true from (by decide +kernel : ∀ k, k < 16 → 8 ≤ k → Nat.testBit 65280 k = true) k hk hk2]
        have : Nat.testBit j k = false := Nat.testBit_lt_two_pow (Nat.lt_of_lt_of_le hj (Nat.pow_le_pow_right (n := 2) (by omega) hk2))
        simp [this]
    · have h1 : Nat.testBit 65280 k = false := Nat.testBit_lt_two_pow (Nat.lt_of_lt_of_le (by omega : 65280 < 2 ^ 16) (Nat.pow_le_pow_right (n := 2) (by omega) hk))
      have h2 : Nat.testBit i (k - 8) = false := Nat.testBit_lt_two_pow (Nat.lt_of_lt_of_le hi (show 2 ^ 8 ≤ 2 ^ (k - 8) from Nat.pow_le_pow_right (by omega) (by omega)))
      simp [h1, h2]
  · exact (pk_shrN (by omega) _ 0 (by decide)).trans (congrArg nI (by omega))
