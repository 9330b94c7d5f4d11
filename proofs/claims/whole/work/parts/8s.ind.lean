/-! The reference's encoding doesn't read operands that aren't there -/
theorem one_2 : ((1 : Int32) = 2) = False := by decide
theorem zero_1 : ((0 : Int32) = 1) = False := by decide
theorem zero_2 : ((0 : Int32) = 2) = False := by decide
set_option maxRecDepth 8000 in
theorem encOne_i (x1 : Int64) (a0 b0 c0 a1 b1 : Int32) (m : Nat → Int32) : MO_encodeOne_v x1 a0 b0 c0 a1 b1 m = MO_encodeOne_v x1 a0 b0 c0 0 0 m := by
  simp only [MO_encodeOne_v, MO_encodeOne_131_v, MO_encodeOne_111_v, MO_encodeOne_69_v, MO_encodeOne_44_v, MO_encodeOne_31_v, MO_encodeOne_470_v, MO_encodeOne_453_v, MO_encodeOne_609_v, MO_encodeOne_588_v, MO_give_v, MO_giveWith_v, MO_giveOctet_v, goM, eq_self, if_true]
set_option maxRecDepth 8000 in
theorem enc_i1 (x1 : Int64) (a0 b0 c0 a1 b1 : Int32) (m : Nat → Int32) : MO_encode_v x1 a0 b0 c0 a1 b1 m 1 = MO_encode_v x1 a0 b0 c0 0 0 m 1 := by
  unfold MO_encode_v
  rw [encOne_i x1 a0 b0 c0 a1 b1]
  simp only [one_0, one_2, if_false, MO_give_v]
set_option maxRecDepth 8000 in
theorem enc_i0 (x1 : Int64) (a0 b0 c0 a1 b1 : Int32) (m : Nat → Int32) : MO_encode_v x1 a0 b0 c0 a1 b1 m 0 = MO_encode_v x1 0 0 0 0 0 m 0 := by
  unfold MO_encode_v
  simp only [zero_1, zero_2, if_false, eq_self, if_true, MO_give_v, MO_encode_53_v]
