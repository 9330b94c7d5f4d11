/-! Arithmetic on A, and LD of octets, on both sides -/
theorem or_0 (x : Int32) : x ||| 0 = x := Int32.or_zero
theorem oct_of_and {x : Int32} (h : x &&& 255 = x) : oct x := h ▸ oct_and x
theorem oct_or {a b : Int32} (ha : oct a) (hb : oct b) : oct (a ||| b) := by
  apply oct_of_and
  apply b_ext
  intro i hi
  rw [b_and, b_255, b_or]
  rcases Nat.lt_or_ge i 8 with h | h
  · simp [h]
  · rw [oct_bt ha h, oct_bt hb h]
    simp
theorem oct_xor {a b : Int32} (ha : oct a) (hb : oct b) : oct (a ^^^ b) := by
  apply oct_of_and
  apply b_ext
  intro i hi
  rw [b_and, b_255, b_xor]
  rcases Nat.lt_or_ge i 8 with h | h
  · simp [h]
  · rw [oct_bt ha h, oct_bt hb h]
    simp
theorem oct_andl {a : Int32} (b : Int32) (ha : oct a) : oct (a &&& b) := by
  apply oct_of_and
  apply b_ext
  intro i hi
  rw [b_and, b_255, b_and]
  rcases Nat.lt_or_ge i 8 with h | h
  · simp [h]
  · rw [oct_bt ha h]
    simp
theorem oct_andr (a : Int32) {b : Int32} (hb : oct b) : oct (a &&& b) := by
  rw [Int32.and_comm]
  exact oct_andl a hb
theorem oct_lit {n : Nat} (h : n < 256) : oct (nI n) := ⟨n, h, rfl⟩
theorem oct_sg (x : Int32) : oct (sgV x) := by
  unfold sgV
  refine oct_or (oct_andr x (oct_lit (n := 168) (by omega))) ?_
  split
  · exact oct_lit (n := 64) (by omega)
  · exact oct_lit (n := 0) (by omega)
def paV (x : Int32) : Int32 := if ((((x ^^^ (x >>> ((4 : Int32) &&& 31))) ^^^ ((x ^^^ (x >>> ((4 : Int32) &&& 31))) >>> ((2 : Int32) &&& 31))) ^^^ (((x ^^^ (x >>> ((4 : Int32) &&& 31))) ^^^ ((x ^^^ (x >>> ((4 : Int32) &&& 31))) >>> ((2 : Int32) &&& 31))) >>> ((1 : Int32) &&& 31))) &&& 1) = 0 then 4 else 0
theorem rpa_eq (x : Int32) (r : vmD) (Q : Int32 → vmD → Prop) : MO_parity x r Q = Q (paV x) r := by
  unfold MO_parity paV
  simp only [bnd_iff]
  split <;> rfl
def bcV (x0 : Int32) : Int32 :=
  let a := x0 - ((UInt32.toInt32 ((Int32.toUInt32 x0) >>> ((Int32.toUInt32 (1 : Int32)) &&& Int32.toUInt32 31))) &&& 1431655765)
  let b := (a &&& 858993459) + ((UInt32.toInt32 ((Int32.toUInt32 a) >>> ((Int32.toUInt32 (2 : Int32)) &&& Int32.toUInt32 31))) &&& 858993459)
  let c := (b + (UInt32.toInt32 ((Int32.toUInt32 b) >>> ((Int32.toUInt32 (4 : Int32)) &&& Int32.toUInt32 31)))) &&& 252645135
  let e := c + (UInt32.toInt32 ((Int32.toUInt32 c) >>> ((Int32.toUInt32 (8 : Int32)) &&& Int32.toUInt32 31)))
  let f := e + (UInt32.toInt32 ((Int32.toUInt32 e) >>> ((Int32.toUInt32 (16 : Int32)) &&& Int32.toUInt32 31)))
  f &&& 63
theorem bc_pa : ∀ n, n < 256 → (if (bcV (nI n) - bcV (nI n) / 2 * 2) = 0 then (4 : Int32) else 0) = paV (nI n) := by decide +kernel
theorem pa_eq {x : Int32} (hx : oct x) (c : vmD) (Q : Int32 → vmD → Prop) : Machine_parityOf x c Q = Q (paV x) c := by
  have h1 : ∀ (y : Int32) (Q : Int32 → vmD → Prop), Integer_bitCount y c Q = Q (bcV y) c := fun y Q => by
    unfold Integer_bitCount
    simp only [bnd_iff]
    rfl
  unfold Machine_parityOf
  rw [h1, hx.and]
  obtain ⟨n, hn, rfl⟩ := hx
  rw [← bc_pa n hn]
  split <;> rfl
theorem oct_pa (x : Int32) : oct (paV x) := by
  unfold paV
  split
  · exact oct_lit (n := 4) (by omega)
  · exact oct_lit (n := 0) (by omega)
theorem sum_eq {a v k : Int32} (hs : ((a + v) + k) &&& 511 = (a + v) + k) (c : vmD) (Q : Int32 → vmD → Prop) : Machine_sum a v k c Q = Q (((a + v) + k) &&& 255) (cO 6 (fS a v ((a + v) + k)) c) := by
  unfold Machine_sum
  simp only [bnd_iff, sg_eq, sfl_eq]
  rw [fS_id a v _ hs]
theorem dif_eq (a v k : Int32) (c : vmD) (Q : Int32 → vmD → Prop) : Machine_difference a v k c Q = Q (((a - v) - k) &&& 255) (cO 6 (fD a v ((a - v) - k)) c) := by
  unfold Machine_difference
  simp only [bnd_iff, sg_eq, sfl_eq]
  rw [fD_id a v _]
theorem rsum_eq (a v k : Int32) (r : vmD) (Q : Int32 → vmD → Prop) : MO_sum a v k r Q = Q (((a + v) + k) &&& 255) (sA r 65 6 (fS a v ((a + v) + k))) := by
  unfold MO_sum
  simp only [bnd_iff, rsg_eq]
  rfl
theorem rdif_eq (a v k : Int32) (r : vmD) (Q : Int32 → vmD → Prop) : MO_difference a v k r Q = Q (((a - v) - k) &&& 255) (sA r 65 6 (fD a v ((a - v) - k))) := by
  unfold MO_difference
  simp only [bnd_iff, rsg_eq]
  rfl
theorem oct_fS {a v x : Int32} (hs : x &&& 511 = x) : oct (fS a v x) := by
  rw [← fS_id a v x hs]
  exact oct_and _
theorem oct_fD (a v x : Int32) : oct (fD a v x) := by
  rw [← fD_id a v x]
  exact oct_and _
theorem s511 {a v k : Int32} (ha : oct a) (hv : oct v) (hk : k = 0 ∨ k = 1) : ((a + v) + k) &&& 511 = (a + v) + k := by
  obtain ⟨i, hi, rfl⟩ := ha
  obtain ⟨j, hj, rfl⟩ := hv
  rcases hk with rfl | rfl
  · rw [show (0 : Int32) = nI 0 from rfl, nI_add, nI_add, pk_andN (by omega) (m := 511) 9 rfl, Nat.mod_eq_of_lt (by omega)]
  · rw [show (1 : Int32) = nI 1 from rfl, nI_add, nI_add, pk_andN (by omega) (m := 511) 9 rfl, Nat.mod_eq_of_lt (by omega)]
theorem and1 {x : Int32} (h : oct x) : x &&& 1 = 0 ∨ x &&& 1 = 1 := by
  obtain ⟨j, hj, rfl⟩ := h
  rw [pk_andN (by omega) (m := 1) 1 rfl]
  rcases (show j % 2 ^ 1 = 0 ∨ j % 2 ^ 1 = 1 by omega) with e | e <;> rw [e]
  · exact Or.inl rfl
  · exact Or.inr rfl
/-- the class's arithmetic on A with an operand that is v: kinds (8, k) for ADD, ADC, SBC, (k, 0) for the rest -/
def aluC (y : Nat) (k : Int32) (c : vmD) (Q : vmD → Prop) : Prop := if y = 0 ∨ y = 1 ∨ y = 3 then Machine_calculate (nI (48 + y)) 8 k c Q else Machine_calculate (nI (48 + y)) k 0 c Q
theorem com_eq {x : Int32} (hx : oct x) {w : Int32} (c : vmD) (hw : oct w) (Q : vmD → Prop) : Machine_combine x w c Q = Q (cO 6 ((sgV x ||| paV x) ||| w) (cO 7 x c)) := by
  unfold Machine_combine
  simp only [sv7_eq, sg_eq, pa_eq hx, sfl_eq, hx.and, (oct_or (oct_or (oct_sg x) (oct_pa x)) hw).and]
theorem alu_ok {c r : vmD} (h : Rel c r) {y : Nat} (hy : y < 8) {k v : Int32} (hk : ¬ k = 0) (hl : ∀ Q, Machine_load k c Q = Q v c) (hp : ∀ Q, Machine_pairOf k c Q = Q (-1) c) (hv : oct v) : ∃ c2 r2, (∀ Q : vmD → Prop, Q c2 → aluC y k c Q) ∧ (∀ Q : vmD → Prop, Q r2 → MO_reckon (nI y) v r Q) ∧ Rel c2 r2 := by
  have ha := h.o65 (k := 7) (by omega)
  have hf := h.o65 (k := 6) (by omega)
  have s0 := s511 ha hv (Or.inl rfl)
  have s1 := s511 ha hv (and1 hf)
  rcases (show y = 0 ∨ y = 1 ∨ y = 2 ∨ y = 3 ∨ y = 4 ∨ y = 5 ∨ y = 6 ∨ y = 7 by omega) with rfl | rfl | rfl | rfl | rfl | rfl | rfl | rfl
  · refine ⟨cO 7 ((((gA r 65 7 + v) + 0) &&& 255) &&& 255) (cO 6 (fS (gA r 65 7) v ((gA r 65 7 + v) + 0)) c), sA (sA r 65 6 (fS (gA r 65 7) v ((gA r 65 7 + v) + 0))) 65 7 ((((gA r 65 7 + v) + 0) &&& 255) &&& 255), fun Q hQ => ?_, fun Q hQ => ?_, (h.oct6 (oct_fS s0)).oct7 (oct_and _)⟩
    · have e : nI (48 + 0) = 48 := rfl
      unfold aluC
      rw [e]
      simp (config := { decide := true }) only [if_true, if_false, Machine_calculate, Machine_calculate_12, Machine_calculate_22, Machine_calculate_63, h.fl_eq, h.ld7, hl, hp, po8_eq, hk, sum_eq s0, sv7_eq]
      exact hQ
    · have e : nI 0 = 0 := rfl
      rw [e]
      rw [(oct_and _).and] at hQ
      simp (config := { decide := true }) only [MO_reckon, if_true, if_false, bnd_iff, rsum_eq, rdif_eq, rsg_eq, rpa_eq, gA_sA, u1f_eq]
      exact hQ
  · refine ⟨cO 7 ((((gA r 65 7 + v) + (gA r 65 6 &&& 1)) &&& 255) &&& 255) (cO 6 (fS (gA r 65 7) v ((gA r 65 7 + v) + (gA r 65 6 &&& 1))) c), sA (sA r 65 6 (fS (gA r 65 7) v ((gA r 65 7 + v) + (gA r 65 6 &&& 1)))) 65 7 ((((gA r 65 7 + v) + (gA r 65 6 &&& 1)) &&& 255) &&& 255), fun Q hQ => ?_, fun Q hQ => ?_, (h.oct6 (oct_fS s1)).oct7 (oct_and _)⟩
    · have e : nI (48 + 1) = 49 := rfl
      unfold aluC
      rw [e]
      simp (config := { decide := true }) only [if_true, if_false, Machine_calculate, Machine_calculate_12, Machine_calculate_22, Machine_calculate_63, h.fl_eq, h.ld7, hl, hp, po8_eq, hk, sum_eq s1, sv7_eq]
      exact hQ
    · have e : nI 1 = 1 := rfl
      rw [e]
      rw [(oct_and _).and] at hQ
      simp (config := { decide := true }) only [MO_reckon, if_true, if_false, bnd_iff, rsum_eq, rdif_eq, rsg_eq, rpa_eq, gA_sA, u1f_eq]
      exact hQ
  · refine ⟨cO 7 ((((gA r 65 7 - v) - 0) &&& 255) &&& 255) (cO 6 (fD (gA r 65 7) v ((gA r 65 7 - v) - 0)) c), sA (sA r 65 6 (fD (gA r 65 7) v ((gA r 65 7 - v) - 0))) 65 7 ((((gA r 65 7 - v) - 0) &&& 255) &&& 255), fun Q hQ => ?_, fun Q hQ => ?_, (h.oct6 (oct_fD _ _ _)).oct7 (oct_and _)⟩
    · have e : nI (48 + 2) = 50 := rfl
      unfold aluC
      rw [e]
      simp (config := { decide := true }) only [if_true, if_false, Machine_calculate, Machine_calculate_12, Machine_calculate_22, Machine_calculate_63, h.fl_eq, h.ld7, hl, hp, po8_eq, hk, dif_eq, sv7_eq]
      exact hQ
    · have e : nI 2 = 2 := rfl
      rw [e]
      rw [(oct_and _).and] at hQ
      simp (config := { decide := true }) only [MO_reckon, if_true, if_false, bnd_iff, rsum_eq, rdif_eq, rsg_eq, rpa_eq, gA_sA, u1f_eq]
      exact hQ
  · refine ⟨cO 7 ((((gA r 65 7 - v) - (gA r 65 6 &&& 1)) &&& 255) &&& 255) (cO 6 (fD (gA r 65 7) v ((gA r 65 7 - v) - (gA r 65 6 &&& 1))) c), sA (sA r 65 6 (fD (gA r 65 7) v ((gA r 65 7 - v) - (gA r 65 6 &&& 1)))) 65 7 ((((gA r 65 7 - v) - (gA r 65 6 &&& 1)) &&& 255) &&& 255), fun Q hQ => ?_, fun Q hQ => ?_, (h.oct6 (oct_fD _ _ _)).oct7 (oct_and _)⟩
    · have e : nI (48 + 3) = 51 := rfl
      unfold aluC
      rw [e]
      simp (config := { decide := true }) only [if_true, if_false, Machine_calculate, Machine_calculate_12, Machine_calculate_22, Machine_calculate_63, h.fl_eq, h.ld7, hl, hp, po8_eq, hk, dif_eq, sv7_eq]
      exact hQ
    · have e : nI 3 = 3 := rfl
      rw [e]
      rw [(oct_and _).and] at hQ
      simp (config := { decide := true }) only [MO_reckon, if_true, if_false, bnd_iff, rsum_eq, rdif_eq, rsg_eq, rpa_eq, gA_sA, u1f_eq]
      exact hQ
  · refine ⟨cO 6 ((sgV (gA r 65 7 &&& v) ||| paV (gA r 65 7 &&& v)) ||| 16) (cO 7 (gA r 65 7 &&& v) c), sA (sA r 65 7 (gA r 65 7 &&& v)) 65 6 ((sgV (gA r 65 7 &&& v) ||| paV (gA r 65 7 &&& v)) ||| 16), fun Q hQ => ?_, fun Q hQ => ?_, (h.oct7 (oct_andl _ ha)).oct6 (oct_or (oct_or (oct_sg _) (oct_pa _)) (show oct 16 from oct_lit (n := 16) (by omega)))⟩
    · have e : nI (48 + 4) = 52 := rfl
      unfold aluC
      rw [e]
      simp (config := { decide := true }) only [if_true, if_false, Machine_calculate, Machine_calculate_12, Machine_calculate_22, Machine_calculate_63, h.fl_eq, h.ld7, hl, hp, po8_eq, hk, com_eq (oct_andl _ ha) _ (show oct 16 from oct_lit (n := 16) (by omega)), sv7_eq]
      exact hQ
    · have e : nI 4 = 4 := rfl
      rw [e]
      simp (config := { decide := true }) only [MO_reckon, if_true, if_false, bnd_iff, rsum_eq, rdif_eq, rsg_eq, rpa_eq, gA_sA, u1f_eq]
      exact hQ
  · refine ⟨cO 6 ((sgV (gA r 65 7 ^^^ v) ||| paV (gA r 65 7 ^^^ v)) ||| 0) (cO 7 (gA r 65 7 ^^^ v) c), sA (sA r 65 7 (gA r 65 7 ^^^ v)) 65 6 ((sgV (gA r 65 7 ^^^ v) ||| paV (gA r 65 7 ^^^ v)) ||| 0), fun Q hQ => ?_, fun Q hQ => ?_, (h.oct7 (oct_xor ha hv)).oct6 (oct_or (oct_or (oct_sg _) (oct_pa _)) (show oct 0 from oct_lit (n := 0) (by omega)))⟩
    · have e : nI (48 + 5) = 53 := rfl
      unfold aluC
      rw [e]
      simp (config := { decide := true }) only [if_true, if_false, Machine_calculate, Machine_calculate_12, Machine_calculate_22, Machine_calculate_63, h.fl_eq, h.ld7, hl, hp, po8_eq, hk, com_eq (oct_xor ha hv) _ (show oct 0 from oct_lit (n := 0) (by omega)), sv7_eq]
      exact hQ
    · have e : nI 5 = 5 := rfl
      rw [e]
      rw [or_0] at hQ
      simp (config := { decide := true }) only [MO_reckon, if_true, if_false, bnd_iff, rsum_eq, rdif_eq, rsg_eq, rpa_eq, gA_sA, u1f_eq]
      exact hQ
  · refine ⟨cO 6 ((sgV (gA r 65 7 ||| v) ||| paV (gA r 65 7 ||| v)) ||| 0) (cO 7 (gA r 65 7 ||| v) c), sA (sA r 65 7 (gA r 65 7 ||| v)) 65 6 ((sgV (gA r 65 7 ||| v) ||| paV (gA r 65 7 ||| v)) ||| 0), fun Q hQ => ?_, fun Q hQ => ?_, (h.oct7 (oct_or ha hv)).oct6 (oct_or (oct_or (oct_sg _) (oct_pa _)) (show oct 0 from oct_lit (n := 0) (by omega)))⟩
    · have e : nI (48 + 6) = 54 := rfl
      unfold aluC
      rw [e]
      simp (config := { decide := true }) only [if_true, if_false, Machine_calculate, Machine_calculate_12, Machine_calculate_22, Machine_calculate_63, h.fl_eq, h.ld7, hl, hp, po8_eq, hk, com_eq (oct_or ha hv) _ (show oct 0 from oct_lit (n := 0) (by omega)), sv7_eq]
      exact hQ
    · have e : nI 6 = 6 := rfl
      rw [e]
      rw [or_0] at hQ
      simp (config := { decide := true }) only [MO_reckon, if_true, if_false, bnd_iff, rsum_eq, rdif_eq, rsg_eq, rpa_eq, gA_sA, u1f_eq]
      exact hQ
  · refine ⟨cO 6 ((((fD (gA r 65 7) v ((gA r 65 7 - v) - 0)) &&& (-41)) ||| (v &&& 40)) &&& 255) (cO 6 (fD (gA r 65 7) v ((gA r 65 7 - v) - 0)) c), sA (sA r 65 6 (fD (gA r 65 7) v ((gA r 65 7 - v) - 0))) 65 6 ((((fD (gA r 65 7) v ((gA r 65 7 - v) - 0)) &&& (-41)) ||| (v &&& 40)) &&& 255), fun Q hQ => ?_, fun Q hQ => ?_, (h.oct6 (oct_fD _ _ _)).oct6 (oct_and _)⟩
    · have e : nI (48 + 7) = 55 := rfl
      unfold aluC
      rw [e]
      simp (config := { decide := true }) only [if_true, if_false, Machine_calculate, Machine_calculate_12, Machine_calculate_22, Machine_calculate_63, h.fl_eq, h.ld7, hl, hp, po8_eq, hk, dif_eq, sv7_eq, (h.oct6 (oct_fD (gA r 65 7) v ((gA r 65 7 - v) - 0))).fl_eq, gA_sA, u1f_eq, sfl_eq]
      exact hQ
    · have e : nI 7 = 7 := rfl
      rw [e]
      have ho : ((((fD (gA r 65 7) v ((gA r 65 7 - v) - 0)) &&& (-41)) ||| (v &&& 40))) &&& 255 = (((fD (gA r 65 7) v ((gA r 65 7 - v) - 0)) &&& (-41)) ||| (v &&& 40)) := (oct_or (oct_andl _ (oct_fD _ _ _)) (oct_andl _ hv)).and
      rw [ho] at hQ
      simp (config := { decide := true }) only [MO_reckon, if_true, if_false, bnd_iff, rsum_eq, rdif_eq, rsg_eq, rpa_eq, gA_sA, u1f_eq]
      exact hQ
/-! LD of octets -/
theorem exe36 (f e x : Int32) (c : vmD) (Q : vmD → Prop) : Machine_execute 36 f e x c Q = Machine_transfer f e c Q := by
  simp (config := { decide := true }) only [Machine_execute, Machine_execute_22, Machine_execute_45, Machine_execute_69, Machine_execute_90, Machine_execute_123, if_true, if_false]
theorem ex_ld {c r : vmD} (h : Rel c r) {ix y z : Nat} (hix : ix < 3) (hy : y < 8) (hz : z < 8) (hd : ix = 0 ∨ gF c 19 8 = gF r 42 62) (h59 : gF r 42 59 = 0) (h60 : gF r 42 60 = nI ix) (h61 : gF r 42 61 = nI (64 * 1 + 8 * y + z)) (x : Int32) : ExOk 36 (kO ix y) (kO ix z) x c r := by
  refine ⟨cS ix y (vO ix z r) r c, rSt ix y (vO ix z r) r, fun Q hQ => ?_, fun Q hQ => ?_, h.SO hy _⟩
  · rw [exe36]
    unfold Machine_transfer
    simp only [po_kO hix hy, po_kO hix hz, h.lO hix hz hd, h.sO hix hy hd, (kO_ne hix hz).1, (kO_ne hix hz).2.1, if_false]
    rw [if_pos (by decide), if_pos (by decide)]
    exact hQ
  · unfold dispR
    rw [h59, if_neg (by decide), if_neg (by decide), h61, opx (by omega) hy hz, if_neg (by decide), if_pos (by decide), opz (by omega) hy hz, opy (by omega) hy hz, octetAt_eq hix hz h60, setOctet_eq hix hy h60]
    exact hQ
