/-! The reference's encoding: what it leaves of the fields -/
def N2 (z z' : Int32 × (Nat → Int32)) (m m' : Nat → Int32) : Prop := z.1 = z'.1 ∧ ∀ f, (z.2 f = m f ∧ z'.2 f = m' f) ∨ z.2 f = z'.2 f
theorem N_mk (x : Int32) (m m' : Nat → Int32) : N2 (x, m) (x, m') m m' := ⟨rfl, fun _ => Or.inl ⟨rfl, rfl⟩⟩
theorem N_ite {p : Prop} [Decidable p] {a a' b b' : Int32 × (Nat → Int32)} {m m' : Nat → Int32} (ha : N2 a a' m m') (hb : N2 b b' m m') : N2 (if p then a else b) (if p then a' else b') m m' := by
  by_cases h : p
  · rw [if_pos h, if_pos h]
    exact ha
  · rw [if_neg h, if_neg h]
    exact hb
theorem N_n01 {z z' : Int32 × (Nat → Int32)} {m m' : Nat → Int32} (h : N2 z z' m m') : N2 (n01 z) (n01 z') m m' := by
  unfold n01
  rw [h.1]
  by_cases q : z'.1 = 0
  · rw [if_pos q, if_pos q]
    exact ⟨rfl, h.2⟩
  · rw [if_neg q, if_neg q]
    exact ⟨rfl, h.2⟩
theorem N_u {z z' : Int32 × (Nat → Int32)} {m m' : Nat → Int32} {k : Nat} {v : Int32} (h : N2 z z' (u1f m k v) (u1f m' k v)) : N2 z z' m m' := by
  refine ⟨h.1, fun f => ?_⟩
  rcases h.2 f with ⟨a, b⟩ | a
  · by_cases e : f = k
    · subst e
      rw [u1f_eq] at a b
      exact Or.inr (a.trans b.symm)
    · rw [u1f_ne _ _ e] at a b
      exact Or.inl ⟨a, b⟩
  · exact Or.inr a
theorem MO_give_n {x1 x2 x3 a0 b0 c0 a1 b1 : Int32} {m m' : Nat → Int32} : N2 (MO_give_v x1 x2 x3 a0 b0 c0 a1 b1 m) (MO_give_v x1 x2 x3 a0 b0 c0 a1 b1 m') m m' := N_u (N_u (N_u (N_mk 1 _ _)))
theorem MO_giveWith_n {x1 x2 x3 x4 x5 a0 b0 c0 a1 b1 : Int32} {m m' : Nat → Int32} : N2 (MO_giveWith_v x1 x2 x3 x4 x5 a0 b0 c0 a1 b1 m) (MO_giveWith_v x1 x2 x3 x4 x5 a0 b0 c0 a1 b1 m') m m' := N_u (N_u (N_u (N_u (N_u (N_mk 1 _ _)))))
theorem MO_giveOctet_n {x1 x2 x3 a0 b0 c0 a1 b1 : Int32} {m m' : Nat → Int32} : N2 (MO_giveOctet_v x1 x2 x3 a0 b0 c0 a1 b1 m) (MO_giveOctet_v x1 x2 x3 a0 b0 c0 a1 b1 m') m m' := by
  unfold MO_giveOctet_v goM
  by_cases h : (if x3 = 0 then a0 else a1) = 14
  · rw [if_pos h, if_pos h]
    exact N_u (N_u (N_u (N_u (N_mk 1 _ _))))
  · rw [if_neg h, if_neg h]
    exact N_u (N_u (N_u (N_mk 1 _ _)))
set_option maxRecDepth 8000 in
theorem MO_encodeOne_131_n {x3 : Int32} {s0 : Int32} {s1 : Int32} {a0 b0 c0 a1 b1 : Int32} {m m' : Nat → Int32} : N2 (MO_encodeOne_131_v x3 s0 s1 a0 b0 c0 a1 b1 m) (MO_encodeOne_131_v x3 s0 s1 a0 b0 c0 a1 b1 m') m m' := by
  unfold MO_encodeOne_131_v
  exact (N_n01 (MO_giveOctet_n))
set_option maxRecDepth 8000 in
theorem MO_encodeOne_111_n {s0 : Int32} {s1 : Int32} {s2 : Int32} {a0 b0 c0 a1 b1 : Int32} {m m' : Nat → Int32} : N2 (MO_encodeOne_111_v s0 s1 s2 a0 b0 c0 a1 b1 m) (MO_encodeOne_111_v s0 s1 s2 a0 b0 c0 a1 b1 m') m m' := by
  unfold MO_encodeOne_111_v
  exact (MO_give_n)
set_option maxRecDepth 8000 in
theorem MO_encodeOne_69_n {s0 : Int32} {s1 : Int32} {s2 : Int32} {a0 b0 c0 a1 b1 : Int32} {m m' : Nat → Int32} : N2 (MO_encodeOne_69_v s0 s1 s2 a0 b0 c0 a1 b1 m) (MO_encodeOne_69_v s0 s1 s2 a0 b0 c0 a1 b1 m') m m' := by
  unfold MO_encodeOne_69_v
  exact (MO_give_n)
set_option maxRecDepth 8000 in
theorem MO_encodeOne_44_n {x3 : Int32} {s0 : Int32} {a0 b0 c0 a1 b1 : Int32} {m m' : Nat → Int32} : N2 (MO_encodeOne_44_v x3 s0 a0 b0 c0 a1 b1 m) (MO_encodeOne_44_v x3 s0 a0 b0 c0 a1 b1 m') m m' := by
  unfold MO_encodeOne_44_v
  exact (N_ite (N_ite (N_ite (N_mk _ _ _) (N_ite (MO_encodeOne_131_n) (MO_encodeOne_131_n))) (N_ite (MO_encodeOne_111_n) (MO_encodeOne_111_n))) (N_ite (MO_encodeOne_69_n) (MO_encodeOne_69_n)))
set_option maxRecDepth 8000 in
theorem MO_encodeOne_31_n {x1 : Int64} {x3 : Int32} {a0 b0 c0 a1 b1 : Int32} {m m' : Nat → Int32} : N2 (MO_encodeOne_31_v x1 x3 a0 b0 c0 a1 b1 m) (MO_encodeOne_31_v x1 x3 a0 b0 c0 a1 b1 m') m m' := by
  unfold MO_encodeOne_31_v
  exact (N_ite (MO_encodeOne_44_n) (MO_encodeOne_44_n))
set_option maxRecDepth 8000 in
theorem MO_encodeOne_470_n {s0 : Int32} {a0 b0 c0 a1 b1 : Int32} {m m' : Nat → Int32} : N2 (MO_encodeOne_470_v s0 a0 b0 c0 a1 b1 m) (MO_encodeOne_470_v s0 a0 b0 c0 a1 b1 m') m m' := by
  unfold MO_encodeOne_470_v
  exact (N_ite (N_ite (N_ite (N_mk _ _ _) (N_n01 (MO_give_n))) (MO_give_n)) (N_ite (N_n01 (MO_give_n)) (N_mk _ _ _)))
set_option maxRecDepth 8000 in
theorem MO_encodeOne_453_n {x1 : Int64} {a0 b0 c0 a1 b1 : Int32} {m m' : Nat → Int32} : N2 (MO_encodeOne_453_v x1 a0 b0 c0 a1 b1 m) (MO_encodeOne_453_v x1 a0 b0 c0 a1 b1 m') m m' := by
  unfold MO_encodeOne_453_v
  exact (N_ite (MO_encodeOne_470_n) (MO_encodeOne_470_n))
set_option maxRecDepth 8000 in
theorem MO_encodeOne_609_n {s0 : Int32} {a0 b0 c0 a1 b1 : Int32} {m m' : Nat → Int32} : N2 (MO_encodeOne_609_v s0 a0 b0 c0 a1 b1 m) (MO_encodeOne_609_v s0 a0 b0 c0 a1 b1 m') m m' := by
  unfold MO_encodeOne_609_v
  show N2 (if s0 = 2 then _ else _) (if s0 = 2 then _ else _) m m'
  exact (N_ite (N_u (N_u (MO_give_n))) (N_u (N_u (MO_give_n))))
set_option maxRecDepth 8000 in
theorem MO_encodeOne_588_n {x1 : Int64} {x4 : Int32} {a0 b0 c0 a1 b1 : Int32} {m m' : Nat → Int32} : N2 (MO_encodeOne_588_v x1 x4 a0 b0 c0 a1 b1 m) (MO_encodeOne_588_v x1 x4 a0 b0 c0 a1 b1 m') m m' := by
  unfold MO_encodeOne_588_v
  exact (N_ite (N_mk _ _ _) (N_ite (MO_encodeOne_609_n) (MO_encodeOne_609_n)))
set_option maxRecDepth 8000 in
theorem MO_encodeOne_n {x1 : Int64} {a0 b0 c0 a1 b1 : Int32} {m m' : Nat → Int32} : N2 (MO_encodeOne_v x1 a0 b0 c0 a1 b1 m) (MO_encodeOne_v x1 a0 b0 c0 a1 b1 m') m m' := by
  unfold MO_encodeOne_v
  exact (N_ite (MO_encodeOne_31_n) (N_ite (MO_encodeOne_31_n) (N_ite (N_ite (N_ite (N_ite (N_mk _ _ _) (N_n01 (MO_giveWith_n))) (N_ite (N_ite (N_mk _ _ _) (N_n01 (MO_giveWith_n))) (N_ite (N_ite (N_ite (N_ite (N_mk _ _ _) (N_n01 (MO_giveWith_n))) (N_ite (N_mk _ _ _) (N_n01 (MO_give_n)))) (MO_give_n)) (N_ite (N_ite (N_mk _ _ _) (N_n01 (MO_giveWith_n))) (N_ite (MO_encodeOne_453_n) (N_ite (MO_encodeOne_453_n) (N_ite (MO_encodeOne_588_n) (N_ite (MO_encodeOne_588_n) (N_mk _ _ _))))))))) (N_ite (N_mk _ _ _) (N_n01 (MO_giveOctet_n)))) (N_ite (N_ite (N_mk _ _ _) (N_n01 (MO_giveOctet_n))) (MO_giveWith_n)))))
set_option maxRecDepth 8000 in
theorem MO_encodeLoad_681_n {s0 : Int32} {s1 : Int32} {s2 : Int32} {a0 b0 c0 a1 b1 : Int32} {m m' : Nat → Int32} : N2 (MO_encodeLoad_681_v s0 s1 s2 a0 b0 c0 a1 b1 m) (MO_encodeLoad_681_v s0 s1 s2 a0 b0 c0 a1 b1 m') m m' := by
  unfold MO_encodeLoad_681_v
  exact (MO_giveOctet_n)
set_option maxRecDepth 8000 in
theorem MO_encodeLoad_659_n {x1 : Int32} {x2 : Int32} {a0 b0 c0 a1 b1 : Int32} {m m' : Nat → Int32} : N2 (MO_encodeLoad_659_v x1 x2 a0 b0 c0 a1 b1 m) (MO_encodeLoad_659_v x1 x2 a0 b0 c0 a1 b1 m') m m' := by
  unfold MO_encodeLoad_659_v
  exact (N_ite (MO_encodeLoad_681_n) (MO_encodeLoad_681_n))
set_option maxRecDepth 8000 in
theorem MO_encodeLoad_601_n {x1 : Int32} {x2 : Int32} {a0 b0 c0 a1 b1 : Int32} {m m' : Nat → Int32} : N2 (MO_encodeLoad_601_v x1 x2 a0 b0 c0 a1 b1 m) (MO_encodeLoad_601_v x1 x2 a0 b0 c0 a1 b1 m') m m' := by
  unfold MO_encodeLoad_601_v
  exact (N_ite (N_mk _ _ _) (N_ite (N_ite (N_mk _ _ _) (N_ite (N_ite (N_mk _ _ _) (MO_encodeLoad_659_n)) (MO_encodeLoad_659_n))) (N_u (N_u (MO_giveOctet_n)))))
set_option maxRecDepth 8000 in
theorem MO_encodeLoad_n  {a0 b0 c0 a1 b1 : Int32} {m m' : Nat → Int32} : N2 (MO_encodeLoad_v  a0 b0 c0 a1 b1 m) (MO_encodeLoad_v  a0 b0 c0 a1 b1 m') m m' := by
  unfold MO_encodeLoad_v
  exact (N_ite (N_ite (N_ite (N_ite (N_ite (N_ite (N_ite (N_ite (MO_encodeLoad_601_n) (N_ite (N_ite (N_ite (N_ite (N_ite (MO_encodeLoad_601_n) (MO_give_n)) (MO_give_n)) (MO_give_n)) (MO_give_n)) (MO_giveWith_n))) (N_ite (N_mk _ _ _) (N_n01 (MO_give_n)))) (N_ite (N_mk _ _ _) (N_n01 (MO_give_n)))) (N_ite (N_mk _ _ _) (N_n01 (MO_give_n)))) (N_ite (N_mk _ _ _) (N_n01 (MO_give_n)))) (N_ite (N_ite (N_ite (N_mk _ _ _) (N_ite (MO_giveWith_n) (MO_giveWith_n))) (MO_giveWith_n)) (MO_giveWith_n))) (N_ite (N_ite (N_mk _ _ _) (N_n01 (MO_giveWith_n))) (MO_giveWith_n))) (N_ite (N_ite (N_ite (N_ite (N_ite (N_mk _ _ _) (N_n01 (MO_give_n))) (MO_give_n)) (N_mk _ _ _)) (N_ite (MO_giveWith_n) (MO_giveWith_n))) (MO_giveWith_n)))
set_option maxRecDepth 8000 in
theorem MO_encodeSum_168_n {x3 : Int32} {a0 b0 c0 a1 b1 : Int32} {m m' : Nat → Int32} : N2 (MO_encodeSum_168_v x3 a0 b0 c0 a1 b1 m) (MO_encodeSum_168_v x3 a0 b0 c0 a1 b1 m') m m' := by
  unfold MO_encodeSum_168_v
  exact (N_ite (N_mk _ _ _) (N_ite (N_mk _ _ _) (N_ite (N_ite (N_mk _ _ _) (N_ite (N_mk _ _ _) (N_n01 (MO_give_n)))) (N_ite (N_n01 (MO_give_n)) (N_mk _ _ _)))))
set_option maxRecDepth 8000 in
theorem MO_encodeSum_154_n {s0 : Int32} {s1 : Int32} {s2 : Int32} {a0 b0 c0 a1 b1 : Int32} {m m' : Nat → Int32} : N2 (MO_encodeSum_154_v s0 s1 s2 a0 b0 c0 a1 b1 m) (MO_encodeSum_154_v s0 s1 s2 a0 b0 c0 a1 b1 m') m m' := by
  unfold MO_encodeSum_154_v
  exact (MO_give_n)
set_option maxRecDepth 8000 in
theorem MO_encodeSum_27_n {s0 : Int32} {a0 b0 c0 a1 b1 : Int32} {m m' : Nat → Int32} : N2 (MO_encodeSum_27_v s0 a0 b0 c0 a1 b1 m) (MO_encodeSum_27_v s0 a0 b0 c0 a1 b1 m') m m' := by
  unfold MO_encodeSum_27_v
  exact (N_ite (N_ite (MO_encodeSum_168_n) (N_ite (MO_encodeSum_168_n) (N_ite (MO_give_n) (N_ite (MO_encodeSum_154_n) (MO_encodeSum_154_n))))) (N_ite (N_ite (N_mk _ _ _) (N_n01 (MO_giveOctet_n))) (MO_giveWith_n)))
set_option maxRecDepth 8000 in
theorem MO_encodeSum_n {x1 : Int64} {a0 b0 c0 a1 b1 : Int32} {m m' : Nat → Int32} : N2 (MO_encodeSum_v x1 a0 b0 c0 a1 b1 m) (MO_encodeSum_v x1 a0 b0 c0 a1 b1 m') m m' := by
  unfold MO_encodeSum_v
  exact (N_ite (MO_encodeSum_27_n) (N_ite (MO_encodeSum_27_n) (MO_encodeSum_27_n)))
set_option maxRecDepth 8000 in
theorem MO_encodeTwo_85_n  {a0 b0 c0 a1 b1 : Int32} {m m' : Nat → Int32} : N2 (MO_encodeTwo_85_v  a0 b0 c0 a1 b1 m) (MO_encodeTwo_85_v  a0 b0 c0 a1 b1 m') m m' := by
  unfold MO_encodeTwo_85_v
  exact (N_ite (N_mk _ _ _) (N_ite (N_ite (N_mk _ _ _) (N_n01 (MO_give_n))) (MO_give_n)))
set_option maxRecDepth 8000 in
theorem MO_encodeTwo_48_n  {a0 b0 c0 a1 b1 : Int32} {m m' : Nat → Int32} : N2 (MO_encodeTwo_48_v  a0 b0 c0 a1 b1 m) (MO_encodeTwo_48_v  a0 b0 c0 a1 b1 m') m m' := by
  unfold MO_encodeTwo_48_v
  exact (N_ite (MO_encodeTwo_85_n) (N_ite (N_ite (MO_encodeTwo_85_n) (MO_give_n)) (MO_encodeTwo_85_n)))
set_option maxRecDepth 8000 in
theorem MO_encodeTwo_172_n {x1 : Int64} {a0 b0 c0 a1 b1 : Int32} {m m' : Nat → Int32} : N2 (MO_encodeTwo_172_v x1 a0 b0 c0 a1 b1 m) (MO_encodeTwo_172_v x1 a0 b0 c0 a1 b1 m') m m' := by
  unfold MO_encodeTwo_172_v
  exact (MO_encodeSum_n)
set_option maxRecDepth 8000 in
theorem MO_encodeTwo_581_n {s0 : Int32} {a0 b0 c0 a1 b1 : Int32} {m m' : Nat → Int32} : N2 (MO_encodeTwo_581_v s0 a0 b0 c0 a1 b1 m) (MO_encodeTwo_581_v s0 a0 b0 c0 a1 b1 m') m m' := by
  unfold MO_encodeTwo_581_v
  exact (N_ite (N_mk _ _ _) (N_ite (N_mk _ _ _) (N_ite (N_mk _ _ _) (N_u (N_u (MO_giveOctet_n))))))
set_option maxRecDepth 8000 in
theorem MO_encodeTwo_n {x1 : Int64} {a0 b0 c0 a1 b1 : Int32} {m m' : Nat → Int32} : N2 (MO_encodeTwo_v x1 a0 b0 c0 a1 b1 m) (MO_encodeTwo_v x1 a0 b0 c0 a1 b1 m') m m' := by
  unfold MO_encodeTwo_v
  exact (N_ite (MO_encodeLoad_n) (N_ite (N_ite (MO_encodeTwo_48_n) (N_ite (MO_encodeTwo_48_n) (MO_give_n))) (N_ite (MO_encodeTwo_172_n) (N_ite (MO_encodeTwo_172_n) (N_ite (MO_encodeTwo_172_n) (N_ite (N_ite (N_mk _ _ _) (N_ite (N_ite (N_mk _ _ _) (N_n01 (MO_giveWith_n))) (N_mk _ _ _))) (N_ite (N_ite (N_mk _ _ _) (N_ite (N_mk _ _ _) (N_n01 (MO_giveWith_n)))) (N_ite (N_ite (N_mk _ _ _) (N_ite (N_mk _ _ _) (N_n01 (MO_giveWith_n)))) (N_ite (N_ite (N_ite (N_mk _ _ _) (N_ite (N_mk _ _ _) (N_n01 (MO_give_n)))) (N_ite (N_mk _ _ _) (N_n01 (MO_giveWith_n)))) (N_ite (N_ite (N_ite (N_mk _ _ _) (N_ite (N_mk _ _ _) (N_n01 (MO_give_n)))) (N_ite (N_mk _ _ _) (N_n01 (MO_giveWith_n)))) (N_ite (MO_encodeTwo_581_n) (N_ite (MO_encodeTwo_581_n) (N_ite (MO_encodeTwo_581_n) (MO_encodeTwo_581_n))))))))))))))
set_option maxRecDepth 8000 in
theorem MO_encode_53_n {x4 : Int32} {s0 : Int32} {s1 : Int32} {a0 b0 c0 a1 b1 : Int32} {m m' : Nat → Int32} : N2 (MO_encode_53_v x4 s0 s1 a0 b0 c0 a1 b1 m) (MO_encode_53_v x4 s0 s1 a0 b0 c0 a1 b1 m') m m' := by
  unfold MO_encode_53_v
  exact (N_n01 (MO_give_n))
set_option maxRecDepth 8000 in
theorem MO_encode_n {x1 : Int64} {a0 b0 c0 a1 b1 : Int32} {m m' : Nat → Int32} {cnt : Int32} : N2 (MO_encode_v x1 a0 b0 c0 a1 b1 m cnt) (MO_encode_v x1 a0 b0 c0 a1 b1 m' cnt) m m' := by
  unfold MO_encode_v
  exact (N_ite (N_ite (N_ite (N_u (N_u (N_u (MO_give_n)))) (N_ite (N_ite (N_u (N_u (N_u (N_mk _ _ _)))) (N_n01 (N_u (N_u (N_u (MO_give_n)))))) (N_u (N_u (N_u (N_mk _ _ _)))))) (N_ite (N_u (N_u (N_u (MO_encodeOne_n)))) (N_ite (N_n01 (N_u (N_u (N_u (MO_encodeTwo_n))))) (N_u (N_u (N_u (N_mk _ _ _))))))) (N_ite (N_ite (N_u (N_u (N_u (MO_encode_53_n)))) (N_u (N_u (N_u (MO_encode_53_n))))) (N_u (N_u (N_u (N_mk _ _ _))))))
